-- 249 J0_isLatin1_aae02 ()Z
def i_249_0 : List AI := [(.getstatic 38, 4, 0, 0, []), (.ifCond .eq 14, 0, 0, 0, [17]), (.aload_n 0, 0, 0, 0, []), (.getfield 15, 100, 1, 0, []), (.ifCond .ne 7, 0, 0, 0, [17]), (.iconst 1, 0, 0, 0, []), (.goto 4, 0, 0, 0, [18])]
theorem aw_249_0 {h bu0 bu : Nat} {post : Option AV → Mm → Prop} {ls : AL} {st : List AV} {M : Mm} (hs : en_vc h (some .boolean) en_sc0 (en_AW h bu0 249 post) post i_249_0 ls st M bu) : en_AW h bu0 249 post 0 ls st M bu := en_AW_intro (by decide +kernel) rfl (is := i_249_0) (by decide +kernel) hs
def i_249_17 : List AI := [(.iconst 0, 0, 0, 0, []), (.nop, 18, 0, 0, [])]
theorem aw_249_17 {h bu0 bu : Nat} {post : Option AV → Mm → Prop} {ls : AL} {st : List AV} {M : Mm} (hs : en_vc h (some .boolean) en_sc0 (en_AW h bu0 249 post) post i_249_17 ls st M bu) : en_AW h bu0 249 post 17 ls st M bu := en_AW_intro (by decide +kernel) rfl (is := i_249_17) (by decide +kernel) hs
def i_249_18 : List AI := [(.ireturn, 0, 0, 0, [])]
theorem aw_249_18 {h bu0 bu : Nat} {post : Option AV → Mm → Prop} {ls : AL} {st : List AV} {M : Mm} (hs : en_vc h (some .boolean) en_sc0 (en_AW h bu0 249 post) post i_249_18 ls st M bu) : en_AW h bu0 249 post 18 ls st M bu := en_AW_intro (by decide +kernel) rfl (is := i_249_18) (by decide +kernel) hs
theorem ct_249 {h bu : Nat} {as : List AV} {M : Mm} {post : Option AV → Mm → Prop} (hl : Nat.ble (en_ent as).length 1 = true) (hs : en_AW h bu 249 post 0 (en_en as 1) [] M bu) : en_Ct h bu 249 as M post := en_Ct_of (by decide +kernel) rfl hl hs
-- 250 J0_checkIndex_df160 (II)V
def i_250_0 : List AI := [(.iload_n 0, 0, 0, 0, []), (.iload_n 1, 0, 0, 0, []), (.getstatic 1053, 5, 0, 0, []), (.invokestatic 1059, 256, 3, 0, [166]), (.pop, 0, 0, 0, []), (.return_, 0, 0, 0, [])]
theorem aw_250_0 {h bu0 bu : Nat} {post : Option AV → Mm → Prop} {ls : AL} {st : List AV} {M : Mm} (hs : en_vc h (none) en_sc0 (en_AW h bu0 250 post) post i_250_0 ls st M bu) : en_AW h bu0 250 post 0 ls st M bu := en_AW_intro (by decide +kernel) rfl (is := i_250_0) (by decide +kernel) hs
theorem ct_250 {h bu : Nat} {as : List AV} {M : Mm} {post : Option AV → Mm → Prop} (hl : Nat.ble (en_ent as).length 2 = true) (hs : en_AW h bu 250 post 0 (en_en as 2) [] M bu) : en_Ct h bu 250 as M post := en_Ct_of (by decide +kernel) rfl hl hs
-- 251 J1_charAt_3b067 ([BI)C
def i_251_0 : List AI := [(.iload_n 1, 0, 0, 0, []), (.aload_n 0, 0, 0, 0, []), (.arraylength, 0, 0, 0, []), (.invokestatic 9, 250, 2, 0, [167]), (.aload_n 0, 0, 0, 0, []), (.iload_n 1, 0, 0, 0, []), (.baload, 0, 0, 0, []), (.sipush 255, 0, 0, 0, []), (.iand, 0, 0, 0, []), (.i2c, 0, 0, 0, []), (.ireturn, 0, 0, 0, [])]
theorem aw_251_0 {h bu0 bu : Nat} {post : Option AV → Mm → Prop} {ls : AL} {st : List AV} {M : Mm} (hs : en_vc h (some .char) en_sc0 (en_AW h bu0 251 post) post i_251_0 ls st M bu) : en_AW h bu0 251 post 0 ls st M bu := en_AW_intro (by decide +kernel) rfl (is := i_251_0) (by decide +kernel) hs
theorem ct_251 {h bu : Nat} {as : List AV} {M : Mm} {post : Option AV → Mm → Prop} (hl : Nat.ble (en_ent as).length 2 = true) (hs : en_AW h bu 251 post 0 (en_en as 2) [] M bu) : en_Ct h bu 251 as M post := en_Ct_of (by decide +kernel) rfl hl hs
-- 256 J3_checkIndex_8e157 (IILjava/util/function/BiFunction;)I
def i_256_0 : List AI := [(.iload_n 0, 0, 0, 0, []), (.ifCond .lt 8, 0, 0, 0, [9]), (.iload_n 0, 0, 0, 0, []), (.iload_n 1, 0, 0, 0, []), (.if_icmp .lt 10, 0, 0, 0, [16]), (.nop, 9, 0, 0, [])]
theorem aw_256_0 {h bu0 bu : Nat} {post : Option AV → Mm → Prop} {ls : AL} {st : List AV} {M : Mm} (hs : en_vc h (some .int) en_sc0 (en_AW h bu0 256 post) post i_256_0 ls st M bu) : en_AW h bu0 256 post 0 ls st M bu := en_AW_intro (by decide +kernel) rfl (is := i_256_0) (by decide +kernel) hs
def i_256_16 : List AI := [(.iload_n 0, 0, 0, 0, []), (.ireturn, 0, 0, 0, [])]
theorem aw_256_16 {h bu0 bu : Nat} {post : Option AV → Mm → Prop} {ls : AL} {st : List AV} {M : Mm} (hs : en_vc h (some .int) en_sc0 (en_AW h bu0 256 post) post i_256_16 ls st M bu) : en_AW h bu0 256 post 16 ls st M bu := en_AW_intro (by decide +kernel) rfl (is := i_256_16) (by decide +kernel) hs
theorem ct_256 {h bu : Nat} {as : List AV} {M : Mm} {post : Option AV → Mm → Prop} (hl : Nat.ble (en_ent as).length 3 = true) (hs : en_AW h bu 256 post 0 (en_en as 3) [] M bu) : en_Ct h bu 256 as M post := en_Ct_of (by decide +kernel) rfl hl hs
