/-! a stretch of instructions, a method, a contract -/
def en_len : Instr → Nat
  | .bipush _ => 2
  | .sipush _ => 3
  | .ldc _ => 2
  | .ldc_w _ => 3
  | .ldc2_w _ => 3
  | .iload _ => 2
  | .aload _ => 2
  | .lload _ => 2
  | .istore _ => 2
  | .astore _ => 2
  | .iinc _ _ => 3
  | .goto _ => 3
  | .ifCond _ _ => 3
  | .if_icmp _ _ => 3
  | .ifnonnull _ => 3
  | .getfield _ => 3
  | .putfield _ => 3
  | .getstatic _ => 3
  | .invokestatic _ => 3
  | .invokevirtual _ => 3
  | _ => 1
/-- what is asked of an instruction's links -/
def en_lk (o pc : Nat) : AI → Bool
  | (.bipush n, _) => decide ((Int8.ofInt n).toInt32 = Int32.ofInt n)
  | (.sipush n, _) => decide ((Int16.ofInt n).toInt32 = Int32.ofInt n)
  | (.ldc j, 0, _, v, _) => decide (Cond.constant (en_cn.getD o "") j (Int32.ofInt v) ∈ lw_tbl)
  | (.ldc j, _, n, _, _) => decide ((o, j, n) ∈ en_sr)
  | (.ldc_w j, _, _, v, _) => decide (Cond.constant (en_cn.getD o "") j (Int32.ofInt v) ∈ lw_tbl)
  | (.ldc2_w j, _, _, v, _) => decide (Cond.constantLong (en_cn.getD o "") j (Int64.ofInt v) ∈ lw_tbl)
  | (.getfield j, c, s, _, ts) => (match Nat.beq 100 c with
      | true => (match s with | 0 => decide (Cond.fieldLink (en_cn.getD o "") j "java/lang/String" "value" "[B" ∈ lw_tbl) | _ => decide (Cond.fieldLink (en_cn.getD o "") j "java/lang/String" "coder" "B" ∈ lw_tbl))
      | false => decide (en_flk[ts.getD 0 0]? = some (o, j, c, s)))
  | (.putfield j, c, s, _, ts) => decide (en_flk[ts.getD 0 0]? = some (o, j, c, s))
  | (.getstatic j, 4, _, _, _) => decide (Cond.fieldLink (en_cn.getD o "") j "java/lang/String" "COMPACT_STRINGS" "Z" ∈ lw_tbl)
  | (.getstatic j, 5, _, _, _) => decide (Cond.fieldLink (en_cn.getD o "") j "jdk/internal/util/Preconditions" "SIOOBE_FORMATTER" "Ljava/util/function/BiFunction;" ∈ lw_tbl)
  | (.getstatic j, n, 0, _, _) => decide (Cond.fieldLink (en_cn.getD o "") j "TownRiverBeast" (en_sn.getD n "") "[I" ∈ lw_tbl)
  | (.getstatic j, n, _, _, _) => decide (Cond.fieldLinkNest (en_cn.getD o "") j "TownRiverBeast" (en_sn.getD n "") "[I" "TownRiverBeast" ∈ en_nest)
  | (.invokestatic j, x, n, _, ts) => (match Nat.ble 1000 x with
      | true => decide (en_xlk[ts.getD 0 0]? = some (o, j, x))
      | false => (match en_mlk[ts.getD 0 0]? with | some (o', j', x', _) => decide (o' = o ∧ j' = j ∧ x' = x) | none => false) && ((en_m x).2.2.2.2.2.1 && decide ((en_m x).2.2.2.2.1 = n)))
  | (.invokevirtual j, x, n, _, ts) => (match en_mlk[ts.getD 0 0]? with | some (o', j', x', _) => decide (o' = o ∧ j' = j ∧ x' = x) | none => false) && (!(en_m x).2.2.2.2.2.1 && decide ((en_m x).2.2.2.2.1 + 1 = n))
  | (.goto off, _, _, _, ts) => decide ((pc : Int) + off = ((ts.getD 0 0 : Nat) : Int))
  | (.ifCond _ off, _, _, _, ts) => decide ((pc : Int) + off = ((ts.getD 0 0 : Nat) : Int))
  | (.if_icmp _ off, _, _, _, ts) => decide ((pc : Int) + off = ((ts.getD 0 0 : Nat) : Int))
  | (.ifnonnull off, _, _, _, ts) => decide ((pc : Int) + off = ((ts.getD 0 0 : Nat) : Int))
  | (.tableswitch d lo hi offs, _, _, _, ts) => decide ((pc : Int) + d = ((ts.getD 0 0 : Nat) : Int)) && (en_tbok pc offs.toList (ts.drop 1) && decide (hi = lo + (ts.drop 1).length - 1))
  | _ => true
def en_okB (o : Nat) (cc : ByteArray) : Nat → List AI → Bool
  | _, [] => true
  | pc, (.nop, t, _) :: _ => decide (t = pc)
  | pc, (.tableswitch d lo hi offs, x) :: _ => (match decode cc pc with | .ok (j, _) => decide (j = .tableswitch d lo hi offs) | _ => false) && en_lk o pc (.tableswitch d lo hi offs, x)
  | pc, i :: is => decide (decode cc pc = .ok (i.1, en_len i.1)) && (en_lk o pc i && en_okB o cc (pc + en_len i.1) is)
theorem en_okB_cons {o pc : Nat} {cc : ByteArray} {ins : Instr} {x y : Nat} {v : Int} {ts : List Nat} {is : List AI} (h : en_okB o cc pc ((ins, x, y, v, ts) :: is) = true) (h1 : ∀ d lo hi offs, ins ≠ .tableswitch d lo hi offs) (h2 : ins ≠ .nop) : decode cc pc = .ok (ins, en_len ins) ∧ en_lk o pc (ins, x, y, v, ts) = true ∧ en_okB o cc (pc + en_len ins) is = true := by
  cases ins <;> first | exact absurd rfl h2 | exact absurd rfl (h1 _ _ _ _) | (simp only [en_okB, Bool.and_eq_true, decide_eq_true_eq] at h; exact h)
section EN6
variable {p : Program} {l : Launch} {e : Env} {R : Room} {s : State} {m : MethodId} {args : Array Value} {below : List Frame} {meth : Method} {c : Code} {Q : State → Prop} {cc : ByteArray} {own : String} {nL h bu0 : Nat} {A : Nat → Prop} {cd : Nat → Nat → Nat} {D : va_G} {cs : Nat → ClassId} {sc : Nat × (Nat → Int)} {ad0 : Nat → Nat} {M0 : Mm} {K : Nat → AK}
def en_isR : Instr → Bool
  | .ireturn => true
  | .lreturn => true
  | .areturn => true
  | .return_ => true
  | _ => false
theorem en_al {v : AV} {c' n a : Nat} (h : v = .inr (.inr (c', n, a))) (h1 : 1 ≤ c') (h2 : c' ≤ 9) : ∀ ad, ∃ x, en_rv ad cd v = .ref x := by
  intro ad
  subst h
  match c', h1, h2 with
  | 1, _, _ => exact ⟨_, rfl⟩
  | 2, _, _ => exact ⟨_, rfl⟩
  | 3, _, _ => exact ⟨_, rfl⟩
  | 4, _, _ => exact ⟨_, rfl⟩
  | 5, _, _ => exact ⟨_, rfl⟩
  | 6, _, _ => exact ⟨_, rfl⟩
  | 7, _, _ => exact ⟨_, rfl⟩
  | 8, _, _ => exact ⟨_, rfl⟩
  | 9, _, _ => exact ⟨_, rfl⟩
set_option maxHeartbeats 4000000 in
theorem en_sound {o : Nat} {rt : Option FieldType} {post : Option AV → Mm → Prop} (X : en_Fx p R s m args c cc own nL h bu0 A cd D cs sc) (ho : en_cn.getD o "" = own) (hK : ∀ t ls st M bu, K t ls st M bu → en_At p l e R s m args below meth c Q nL A cd D cs ad0 M0 sc.1 bu0 t ls st M bu)
    (hR : ∀ (i : AI) (pc : Nat) (ls : AL) (st : List AV) (M : Mm) (bu : Nat), en_isR i.1 = true → decode cc pc = .ok (i.1, 1) → en_st h rt sc K post i (fun _ _ _ _ => False) ls st M bu → en_At p l e R s m args below meth c Q nL A cd D cs ad0 M0 sc.1 bu0 pc ls st M bu) :
    ∀ (is : List AI) (pc : Nat) (ls : AL) (st : List AV) (M : Mm) (bu : Nat), en_okB o cc pc is = true → en_vc h rt sc K post is ls st M bu → en_At p l e R s m args below meth c Q nL A cd D cs ad0 M0 sc.1 bu0 pc ls st M bu := by
  subst ho
  intro is
  induction is with
  | nil => intro pc ls st M bu _ hs; exact hs.elim
  | cons i is ih =>
    intro pc ls st M bu hok hs
    obtain ⟨ins, x, y, v, ts⟩ := i
    cases ins
    case nop =>
      have ht : x = pc := of_decide_eq_true hok
      subst ht
      exact hK _ _ _ _ _ hs
    case tableswitch d lo hi offs =>
      simp only [en_okB, Bool.and_eq_true] at hok
      obtain ⟨h1, h2⟩ := hok
      simp only [en_lk, Bool.and_eq_true, decide_eq_true_eq] at h2
      cases hd : decode cc pc with
      | error z => rw [hd] at h1; cases h1
      | ok q =>
        obtain ⟨q1, q2⟩ := q
        rw [hd] at h1
        have hq : q1 = .tableswitch d lo hi offs := of_decide_eq_true h1
        subst hq
        dsimp only [en_vc, en_st] at hs
        split at hs
        · exact en_s_sw X h2.1 h2.2.1 h2.2.2 hd hK hs
        · exact hs.elim
    all_goals (first | exact False.elim hs | skip)
    all_goals (obtain ⟨hdg, hlk, hok'⟩ := en_okB_cons hok (by intros; exact fun q => by cases q) (fun q => by cases q))
    all_goals (have hk := fun ls st M bu => ih _ ls st M bu hok')
    case iconst n => exact en_s_iconst X hdg hk hs
    case bipush n => exact en_s_bipush X hdg (of_decide_eq_true hlk) hk hs
    case sipush n => exact en_s_sipush X hdg (of_decide_eq_true hlk) hk hs
    case lconst n => exact en_s_lconst X hdg hk hs
    case ldc j =>
      cases x with
      | zero =>
        simp only [en_lk, decide_eq_true_eq] at hlk
        exact en_s_ldc X (List.mem_filter.mpr ⟨hlk, rfl⟩) hdg hk hs
      | succ x =>
        obtain ⟨hn, hs⟩ := en_if_t hs
        simp only [en_lk, decide_eq_true_eq] at hlk
        exact en_s_ldcS X rfl hlk (Nat.le_of_ble_eq_true hn) hdg hk hs
    case ldc_w j =>
      simp only [en_lk, decide_eq_true_eq] at hlk
      exact en_s_ldcw X (List.mem_filter.mpr ⟨hlk, rfl⟩) hdg hk hs
    case ldc2_w j =>
      simp only [en_lk, decide_eq_true_eq] at hlk
      exact en_s_ldc2 X (List.mem_filter.mpr ⟨hlk, rfl⟩) hdg hk hs
    case iload_n j =>
      obtain ⟨w, h1, hs⟩ := en_ld_get hs
      obtain x | x | x := w
      · exact en_s_iload_n X hdg hk ⟨x, rfl⟩ h1 hs
      · exact hs.elim
      · exact hs.elim
    case iload j =>
      obtain ⟨w, h1, hs⟩ := en_ld_get hs
      obtain x | x | x := w
      · exact en_s_iload X hdg hk ⟨x, rfl⟩ h1 hs
      · exact hs.elim
      · exact hs.elim
    case lload_n j =>
      obtain ⟨w, h1, hs⟩ := en_ld_get hs
      obtain x | x | x := w
      · exact hs.elim
      · exact en_s_lload_n X hdg hk ⟨x, rfl⟩ h1 hs
      · exact hs.elim
    case lload j =>
      obtain ⟨w, h1, hs⟩ := en_ld_get hs
      obtain x | x | x := w
      · exact hs.elim
      · exact en_s_lload X hdg hk ⟨x, rfl⟩ h1 hs
      · exact hs.elim
    case aload_n j =>
      obtain ⟨w, h1, hs⟩ := en_ld_get hs
      obtain x | x | ⟨a, b, d⟩ := w
      · exact hs.elim
      · exact hs.elim
      · obtain ⟨hb, hs⟩ := en_if_t hs
        simp only [Bool.and_eq_true, Nat.ble_eq] at hb
        exact en_s_aload_n X hdg hk (en_al rfl hb.1 hb.2) h1 hs
    case aload j =>
      obtain ⟨w, h1, hs⟩ := en_ld_get hs
      obtain x | x | ⟨a, b, d⟩ := w
      · exact hs.elim
      · exact hs.elim
      · obtain ⟨hb, hs⟩ := en_if_t hs
        simp only [Bool.and_eq_true, Nat.ble_eq] at hb
        exact en_s_aload X hdg hk (en_al rfl hb.1 hb.2) h1 hs
    case istore_n j =>
      dsimp only [en_vc, en_st] at hs
      split at hs
      · obtain ⟨hb, hs⟩ := en_if_t hs
        exact en_s_istore_n X hdg hk hb hs
      · exact hs.elim
    case istore j =>
      dsimp only [en_vc, en_st] at hs
      split at hs
      · obtain ⟨hb, hs⟩ := en_if_t hs
        exact en_s_istore X hdg hk hb hs
      · exact hs.elim
    case astore_n j =>
      dsimp only [en_vc, en_st] at hs
      split at hs
      · obtain ⟨hb, hs⟩ := en_if_t hs
        exact en_s_astore_n X (en_al rfl (by decide) (by decide)) hdg hk hb hs
      · obtain ⟨hb, hs⟩ := en_if_t hs
        exact en_s_astore_n X (en_al rfl (by decide) (by decide)) hdg hk hb hs
      · exact hs.elim
    case astore j =>
      dsimp only [en_vc, en_st] at hs
      split at hs
      · obtain ⟨hb, hs⟩ := en_if_t hs
        exact en_s_astore X (en_al rfl (by decide) (by decide)) hdg hk hb hs
      · obtain ⟨hb, hs⟩ := en_if_t hs
        exact en_s_astore X (en_al rfl (by decide) (by decide)) hdg hk hb hs
      · exact hs.elim
    case iinc j n =>
      obtain ⟨w, h1, hs⟩ := en_ld_get hs
      obtain x | x | x := w
      · obtain ⟨hb, hs⟩ := en_if_t hs
        exact en_s_iinc X hdg hk h1 hb hs
      · exact hs.elim
      · exact hs.elim
    case iadd =>
      dsimp only [en_vc, en_st] at hs
      split at hs
      · exact en_s_iadd X hdg hk hs
      · exact hs.elim
    case isub =>
      dsimp only [en_vc, en_st] at hs
      split at hs
      · exact en_s_isub X hdg hk hs
      · exact hs.elim
    case imul =>
      dsimp only [en_vc, en_st] at hs
      split at hs
      · exact en_s_imul X hdg hk hs
      · exact hs.elim
    case iand =>
      dsimp only [en_vc, en_st] at hs
      split at hs
      · exact en_s_iand X hdg hk hs
      · exact hs.elim
    case ior =>
      dsimp only [en_vc, en_st] at hs
      split at hs
      · exact en_s_ior X hdg hk hs
      · exact hs.elim
    case ixor =>
      dsimp only [en_vc, en_st] at hs
      split at hs
      · exact en_s_ixor X hdg hk hs
      · exact hs.elim
    case ishl =>
      dsimp only [en_vc, en_st] at hs
      split at hs
      · exact en_s_ishl X hdg hk hs
      · exact hs.elim
    case ishr =>
      dsimp only [en_vc, en_st] at hs
      split at hs
      · exact en_s_ishr X hdg hk hs
      · exact hs.elim
    case iushr =>
      dsimp only [en_vc, en_st] at hs
      split at hs
      · exact en_s_iushr X hdg hk hs
      · exact hs.elim
    case ineg =>
      dsimp only [en_vc, en_st] at hs
      split at hs
      · exact en_s_ineg X hdg hk hs
      · exact hs.elim
    case i2l =>
      dsimp only [en_vc, en_st] at hs
      split at hs
      · exact en_s_i2l X hdg hk hs
      · exact hs.elim
    case l2i =>
      dsimp only [en_vc, en_st] at hs
      split at hs
      · exact en_s_l2i X hdg hk hs
      · exact hs.elim
    case i2b =>
      dsimp only [en_vc, en_st] at hs
      split at hs
      · exact en_s_i2b X hdg hk hs
      · exact hs.elim
    case i2s =>
      dsimp only [en_vc, en_st] at hs
      split at hs
      · exact en_s_i2s X hdg hk hs
      · exact hs.elim
    case i2c =>
      dsimp only [en_vc, en_st] at hs
      split at hs
      · exact en_s_i2c X hdg hk hs
      · exact hs.elim
    case lshl =>
      dsimp only [en_vc, en_st] at hs
      split at hs
      · exact en_s_lshl X hdg hk hs
      · exact hs.elim
    case lor =>
      dsimp only [en_vc, en_st] at hs
      split at hs
      · exact en_s_lor X hdg hk hs
      · exact hs.elim
    case land =>
      dsimp only [en_vc, en_st] at hs
      split at hs
      · exact en_s_land X hdg hk hs
      · exact hs.elim
    case lcmp =>
      dsimp only [en_vc, en_st] at hs
      split at hs
      · exact en_s_lcmp X hdg hk hs
      · exact hs.elim
    case idiv =>
      dsimp only [en_vc, en_st] at hs
      split at hs
      · exact en_s_idiv X hs.1 hdg hk hs.2
      · exact hs.elim
    case irem =>
      dsimp only [en_vc, en_st] at hs
      split at hs
      · exact en_s_irem X hs.1 hdg hk hs.2
      · exact hs.elim
    case dup =>
      dsimp only [en_vc, en_st] at hs
      split at hs
      · obtain ⟨hb, hs⟩ := en_if_t hs
        exact en_s_dup X hb hdg hk hs
      · exact hs.elim
    case pop =>
      dsimp only [en_vc, en_st] at hs
      split at hs
      · obtain ⟨hb, hs⟩ := en_if_t hs
        exact en_s_pop X hb hdg hk hs
      · exact hs.elim
    case dup_x1 =>
      dsimp only [en_vc, en_st] at hs
      split at hs
      · obtain ⟨hb, hs⟩ := en_if_t hs
        simp only [Bool.and_eq_true] at hb
        exact en_s_dup_x1 X hb.1 hb.2 hdg hk hs
      · exact hs.elim
    case dup2 =>
      dsimp only [en_vc, en_st] at hs
      split at hs
      · obtain ⟨hb, hs⟩ := en_if_t hs
        simp only [Bool.and_eq_true] at hb
        exact en_s_dup2 X hb.1 hb.2 hdg hk hs
      · exact hs.elim
    case dup_x2 =>
      dsimp only [en_vc, en_st] at hs
      split at hs
      · obtain ⟨hb, hs⟩ := en_if_t hs
        simp only [Bool.and_eq_true] at hb
        exact en_s_dup_x2 X hb.1 hb.2.1 hb.2.2 hdg hk hs
      · exact hs.elim
    case goto off =>
      simp only [en_lk, decide_eq_true_eq] at hlk
      exact en_s_goto X hlk hdg hK hs
    case ifCond cn off =>
      simp only [en_lk, decide_eq_true_eq] at hlk
      dsimp only [en_vc, en_st] at hs
      split at hs
      · exact en_s_if X hlk hdg hk hK hs
      · exact hs.elim
    case if_icmp cn off =>
      simp only [en_lk, decide_eq_true_eq] at hlk
      dsimp only [en_vc, en_st] at hs
      split at hs
      · exact en_s_icmp X hlk hdg hk hK hs
      · exact hs.elim
    case ifnonnull off =>
      simp only [en_lk, decide_eq_true_eq] at hlk
      dsimp only [en_vc, en_st] at hs
      split at hs
      · exact en_s_nnN X hdg hk hs
      · exact en_s_nn X hlk hdg hK hs
      · exact hs.elim
    case getfield j =>
      dsimp only [en_vc, en_st] at hs
      split at hs
      · obtain ⟨hb, hs⟩ := en_if_t hs
        have hb := Nat.eq_of_beq_eq_true hb
        subst hb
        rename_i c' a r z
        cases h100 : Nat.beq 100 c' with
        | true =>
          have h100 := Nat.eq_of_beq_eq_true h100
          subst h100
          exact False.elim hs
        | false =>
          simp only [en_lk, h100, decide_eq_true_eq] at hlk
          exact en_s_getf X rfl hlk hdg hk hs
      · obtain ⟨hb, hs⟩ := en_if_t hs
        have hb := Nat.eq_of_beq_eq_true hb
        subst hb
        cases y with
        | zero =>
          simp only [en_lk, Nat.beq_refl, decide_eq_true_eq] at hlk
          exact en_s_gval X (List.mem_filter.mpr ⟨hlk, rfl⟩) hdg hk hs
        | succ y =>
          simp only [en_lk, Nat.beq_refl, decide_eq_true_eq] at hlk
          exact en_s_gcod X (List.mem_filter.mpr ⟨hlk, rfl⟩) hdg hk hs
      · exact hs.elim
    case putfield j =>
      simp only [en_lk, decide_eq_true_eq] at hlk
      dsimp only [en_vc, en_st] at hs
      split at hs
      · obtain ⟨hb, hs⟩ := en_if_t hs
        have hb := Nat.eq_of_beq_eq_true hb
        subst hb
        exact en_s_putf X rfl hlk hdg hk hs
      · exact hs.elim
    case iaload =>
      dsimp only [en_vc, en_st] at hs
      split at hs
      · exact en_s_iald X hdg hk hs
      · exact en_s_ti X hdg hk hs
      · exact en_s_sld X hdg hk hs
      · exact hs.elim
    case baload =>
      dsimp only [en_vc, en_st] at hs
      split at hs
      · exact en_s_zald X hdg hk hs
      · exact en_s_tb X hdg hk hs
      · exact hs.elim
    case laload =>
      dsimp only [en_vc, en_st] at hs
      split at hs
      · exact en_s_lald X hdg hk hs
      · exact hs.elim
    case aaload =>
      dsimp only [en_vc, en_st] at hs
      split at hs
      · exact en_s_aald X hdg hk hs
      · exact hs.elim
    case iastore =>
      dsimp only [en_vc, en_st] at hs
      split at hs
      · exact en_s_iast X hdg hk hs
      · exact hs.elim
    case bastore =>
      dsimp only [en_vc, en_st] at hs
      split at hs
      · exact en_s_zast X hs.1 hdg hk hs.2
      · exact hs.elim
    case lastore =>
      dsimp only [en_vc, en_st] at hs
      split at hs
      · exact en_s_last X hdg hk hs
      · exact hs.elim
    case arraylength =>
      dsimp only [en_vc, en_st] at hs
      split at hs
      · exact en_s_alen X (by decide) (by decide) hdg hk hs
      · exact en_s_alen X (by decide) (by decide) hdg hk hs
      · exact en_s_alen X (by decide) (by decide) hdg hk hs
      · exact en_s_tlen X hdg hk hs
      · exact en_s_tblen X hdg hk hs
      · exact en_s_slen X hdg hk hs
      · exact hs.elim
    case ireturn => exact hR (.ireturn, x, y, v, ts) pc ls st M bu rfl hdg hs
    case lreturn => exact hR (.lreturn, x, y, v, ts) pc ls st M bu rfl hdg hs
    case areturn => exact hR (.areturn, x, y, v, ts) pc ls st M bu rfl hdg hs
    case return_ => exact hR (.return_, x, y, v, ts) pc ls st M bu rfl hdg hs
    case getstatic j =>
      match x, hlk, hs with
      | 0, hlk, hs =>
        cases y with
        | zero => simp only [en_lk, decide_eq_true_eq] at hlk; exact en_s_gets X (by decide) (List.mem_filter.mpr ⟨hlk, rfl⟩) hdg hk hs
        | succ y => simp only [en_lk, decide_eq_true_eq] at hlk; exact en_s_getsN X (by decide) hlk hdg hk hs
      | 1, hlk, hs =>
        cases y with
        | zero => simp only [en_lk, decide_eq_true_eq] at hlk; exact en_s_gets X (by decide) (List.mem_filter.mpr ⟨hlk, rfl⟩) hdg hk hs
        | succ y => simp only [en_lk, decide_eq_true_eq] at hlk; exact en_s_getsN X (by decide) hlk hdg hk hs
      | 2, hlk, hs =>
        cases y with
        | zero => simp only [en_lk, decide_eq_true_eq] at hlk; exact en_s_gets X (by decide) (List.mem_filter.mpr ⟨hlk, rfl⟩) hdg hk hs
        | succ y => simp only [en_lk, decide_eq_true_eq] at hlk; exact en_s_getsN X (by decide) hlk hdg hk hs
      | 3, hlk, hs =>
        cases y with
        | zero => simp only [en_lk, decide_eq_true_eq] at hlk; exact en_s_gets X (by decide) (List.mem_filter.mpr ⟨hlk, rfl⟩) hdg hk hs
        | succ y => simp only [en_lk, decide_eq_true_eq] at hlk; exact en_s_getsN X (by decide) hlk hdg hk hs
      | 4, hlk, hs => simp only [en_lk, decide_eq_true_eq] at hlk; exact en_s_getsC X (List.mem_filter.mpr ⟨hlk, rfl⟩) hdg hk hs
      | 5, hlk, hs => simp only [en_lk, decide_eq_true_eq] at hlk; exact en_s_getsF X (List.mem_filter.mpr ⟨hlk, rfl⟩) hdg hk hs
      | x + 6, hlk, hs => exact False.elim hs
    case invokestatic j =>
      cases h1000 : Nat.ble 1000 x with
      | true =>
        simp only [en_lk, h1000, decide_eq_true_eq] at hlk
        dsimp only [en_vc, en_st] at hs
        rw [h1000] at hs
        dsimp only at hs
        split at hs
        · split at hs
          · obtain ⟨n', dp', sp', rfl, rfl, rfl, g1, g2, hs⟩ := hs
            obtain ⟨hb, hs⟩ := en_if_t hs
            exact en_s_cpi X rfl hlk g1 g2 hb hdg hk hs
          · obtain ⟨n', dp', sp', rfl, rfl, rfl, g1, g2, hs⟩ := hs
            obtain ⟨hb, hs⟩ := en_if_t hs
            exact en_s_cpl X rfl hlk g1 g2 hb hdg hk hs
          · exact hs.elim
        · split at hs
          · obtain ⟨hb, hs⟩ := en_if_t hs
            exact en_s_max X rfl hlk hb hdg hk hs
          · exact hs.elim
        · split at hs
          · obtain ⟨hb, hs⟩ := en_if_t hs
            exact en_s_min X rfl hlk hb hdg hk hs
          · exact hs.elim
        · exact hs.elim
      | false =>
        simp only [en_lk, h1000, Bool.and_eq_true, decide_eq_true_eq] at hlk
        obtain ⟨g1, g2, g3⟩ := hlk
        dsimp only [en_vc, en_st] at hs
        rw [h1000] at hs
        dsimp only at hs
        split at g1
        · rename_i o' j' x' nz hq
          obtain ⟨rfl, rfl, rfl⟩ := of_decide_eq_true g1
          split at hs
          · rename_i as r hpop
            obtain ⟨hb, h', b', z1, z2, hs⟩ := en_if_t hs
            exact en_s_calls X rfl hq g2 g3 hpop hb z1 z2 hdg hk hs
          · exact hs.elim
        · cases g1
    case invokevirtual j =>
      simp only [en_lk, Bool.and_eq_true, decide_eq_true_eq, Bool.not_eq_true'] at hlk
      obtain ⟨g1, g2, g3⟩ := hlk
      dsimp only [en_vc, en_st] at hs
      split at g1
      · rename_i o' j' x' nz hq
        obtain ⟨rfl, rfl, rfl⟩ := of_decide_eq_true g1
        have hu := (en_link_M hq).1
        split at hs
        · rename_i cl a as r hpop
          obtain ⟨hb, h', b', z1, z2, hs⟩ := en_if_t hs
          have hb2 := hb
          simp only [Bool.and_eq_true] at hb2
          exact en_s_callv X rfl hq g2 g3 hpop hb rfl (en_rcv1 X hu hb2.2.1) z1 z2 hdg hk hs
        · rename_i cl a as r hpop
          obtain ⟨hb, h', b', z1, z2, hs⟩ := en_if_t hs
          have hb2 := hb
          simp only [Bool.and_eq_true] at hb2
          exact en_s_callv X rfl hq g2 g3 hpop hb rfl (en_rcv7 X hu hb2.2.1) z1 z2 hdg hk hs
        · exact hs.elim
      · cases g1
end EN6
