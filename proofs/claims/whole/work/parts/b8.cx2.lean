/-! an evening's constructor -/
def cx_EE (A : Nat → Prop) (U : State) : Prop := va_AOA .int U ∧ va_Nw (.castable "[I" "java/lang/Cloneable") U ∧ va_Nw (.fieldLinkNest "TownRiverBeast$Evening" 24 "TownRiverBeast" "ASK_FIRST" "[I" "TownRiverBeast") U ∧ ∃ t : Nat, va_Z "TownRiverBeast" "ASK_FIRST" "[I" (.ref t) A U U.heap ∧ cx_AF t A U U.heap
def cx_f1 : List Value := [.int (Int32.ofInt 0), .int (Int32.ofInt 0), .int (Int32.ofInt 0), .int (Int32.ofInt 0), .null, .null, .null, .null, .null, .null, .null, .null, .null, .null, .null]
theorem cx_t1 : ∀ k, k < 15 → parseFieldDescriptor (TX1 k).2.2.1 = some (cx_ty TX1 k) := by decide +kernel
theorem cx_d1 : ∀ k, k < 15 → defaultValue (cx_ty TX1 k) = vp_V cx_f1 k := by decide +kernel
set_option maxHeartbeats 4000000 in
set_option maxRecDepth 100000 in
theorem cx_C1 (l : Launch) : cx_Ct l yX1_init cX1_init 1 1 1 16 1 20 15 208 cx_f1 cx_EE := by
  intro D cs h0 sz
  refine Met.ofW (cc := cX1_init) (maxL := 1) (ret := none) (by decide) rfl ?_
  intro p e s m args below meth c s₁ B hml hv
  obtain ⟨rfl, hsz, hP, hK, hD0, hEx⟩ := hv
  have hts := atoms_spec (ws := Cond.code yX1_init cX1_init 1 none :: en_gw) B.pre
  have hlocks := B.notSynchronized
  have hr := B.returns
  have hin : meth.name = "<init>" := (name_of_methodNamed B.named B.method).1
  subst hsz
  have hD := hD0.self (sz := s.heap.size)
  have X : cx_F p s m _ c cX1_init RX1 1 (va_A [(h0, .inr (1, cx_f1))] s.heap.size) D cs := ⟨B.exec, B.bytes, hml, findClass_of_methodNamed B.named, fun w hw => hts w (List.mem_cons_of_mem _ hw), hK, fun q h => Or.inr h⟩
  have hl := lv_entry ([.ref h0]) (n := 1) (Nat.le_of_ble_eq_true rfl)
  rw [lg_entry_eq]
  generalize (lg_sl ([.ref h0]) ++ List.replicate (1 - (lg_sl ([.ref h0])).length) Slot.unset).toArray = ls at hl ⊢
  have hl : lv_has ls 1 [(0, .ref h0)] := hl
  have hl0 := lv_at hl 0 rfl
  obtain ⟨hA0, hCa, hNl, t, hZ, hAF⟩ := hEx
  have hEx := And.intro hA0 trivial
  refine (show cx_W p l e _ s m _ below meth c _ D _ ls h0 1 0 0 0 [.int (Int32.ofInt 0), .int (Int32.ofInt 0), .int (Int32.ofInt 0), .int (Int32.ofInt 0), .null, .null, .null, .null, .null, .null, .null, .null, .null, .null, .null] [] [] from ?_) s.heap [] hP hD va_S.rf
  refine cx_aload (pc' := 1) X rfl hl0 (by decide +kernel) ?_
  refine cx_obj (i := 3) (pc' := 4) X rfl hl.1 cw_28 cw_21 cw_22 (Nat.le_of_ble_eq_true rfl) (Nat.le_of_ble_eq_true rfl) (by decide +kernel) ?_
  refine cx_aload (pc' := 5) X rfl hl0 (by decide +kernel) ?_
  refine cx_iconst (n := 4) (pc' := 6) X rfl (by decide +kernel) ?_
  refine cx_put (k := 0) (i := 9) (ty := .int) (r := (RX1, TX1, 15)) (fs' := [.int (Int32.ofInt 4), .int (Int32.ofInt 0), .int (Int32.ofInt 0), .int (Int32.ofInt 0), .null, .null, .null, .null, .null, .null, .null, .null, .null, .null, .null]) (pc' := 9) X rfl rfl (by decide) cw_40 rfl (by decide +kernel) rfl rfl (Nat.le_of_ble_eq_true rfl) rfl (by decide +kernel) ?_
  refine cx_aload (pc' := 10) X rfl hl0 (by decide +kernel) ?_
  refine cx_iconst (n := 0) (pc' := 11) X rfl (by decide +kernel) ?_
  refine cx_put (k := 1) (i := 15) (ty := .int) (r := (RX1, TX1, 15)) (fs' := [.int (Int32.ofInt 4), .int (Int32.ofInt 0), .int (Int32.ofInt 0), .int (Int32.ofInt 0), .null, .null, .null, .null, .null, .null, .null, .null, .null, .null, .null]) (pc' := 14) X rfl rfl (by decide) cw_43 rfl (by decide +kernel) rfl rfl (Nat.le_of_ble_eq_true rfl) rfl (by decide +kernel) ?_
  refine cx_aload (pc' := 15) X rfl hl0 (by decide +kernel) ?_
  refine cx_iconst (n := 0) (pc' := 16) X rfl (by decide +kernel) ?_
  refine cx_put (k := 2) (i := 18) (ty := .int) (r := (RX1, TX1, 15)) (fs' := [.int (Int32.ofInt 4), .int (Int32.ofInt 0), .int (Int32.ofInt 0), .int (Int32.ofInt 0), .null, .null, .null, .null, .null, .null, .null, .null, .null, .null, .null]) (pc' := 19) X rfl rfl (by decide) cw_48 rfl (by decide +kernel) rfl rfl (Nat.le_of_ble_eq_true rfl) rfl (by decide +kernel) ?_
  refine cx_aload (pc' := 20) X rfl hl0 (by decide +kernel) ?_
  refine cx_iconst (n := 1) (pc' := 21) X rfl (by decide +kernel) ?_
  refine cx_put (k := 3) (i := 21) (ty := .int) (r := (RX1, TX1, 15)) (fs' := [.int (Int32.ofInt 4), .int (Int32.ofInt 0), .int (Int32.ofInt 0), .int (Int32.ofInt 1), .null, .null, .null, .null, .null, .null, .null, .null, .null, .null, .null]) (pc' := 24) X rfl rfl (by decide) cw_53 rfl (by decide +kernel) rfl rfl (Nat.le_of_ble_eq_true rfl) rfl (by decide +kernel) ?_
  refine cx_aload (pc' := 25) X rfl hl0 (by decide +kernel) ?_
  refine cx_gets (i := 24) (pc' := 28) X rfl hZ hNl (by decide +kernel) ?_
  refine cx_clone (i := 28) (g := cx_M.1 2) (pc' := 31) (cells' := 1) (slots' := 8) X rfl rfl rfl hl.1 (fun _ => rfl) hAF hCa cw_31 cw_32 cw_33 cw_34 cw_35 (Nat.le_of_ble_eq_true rfl) (Nat.le_of_ble_eq_true rfl) (Nat.le_of_ble_eq_true rfl) (Nat.le_of_ble_eq_true rfl) (by decide +kernel) (fun q1 => ?_)
  refine cx_cast (i := 29) (pc' := 34) X rfl cw_37 (by decide +kernel) ?_
  refine cx_putF (k := 4) (i := 33) (ty := (.array .int)) (r := (RX1, TX1, 15)) (fs' := [.int (Int32.ofInt 4), .int (Int32.ofInt 0), .int (Int32.ofInt 0), .int (Int32.ofInt 1), .ref q1, .null, .null, .null, .null, .null, .null, .null, .null, .null, .null]) (pc' := 37) X hin rfl rfl (by decide) cw_55 rfl rfl (by decide +kernel) rfl rfl (Nat.le_of_ble_eq_true rfl) rfl (by decide +kernel) ?_
  refine cx_aload (pc' := 38) X rfl hl0 (by decide +kernel) ?_
  refine cx_bipush (n := 24) (pc' := 40) X rfl (by decide +kernel) (by decide +kernel) ?_
  refine cx_newa (atype := .int) (ty := .int) (t := 0) (N := 24) (a0 := (24, .inl (fun j => Int32.ofInt (cx_M.1 3 j)))) (pc' := 42) (cells' := 2) (slots' := 32) X rfl rfl rfl cw_118 rfl rfl (fun _ h => h) (cx_zi (g := cx_M.1 3) (fun _ => rfl)) (by decide +kernel) (by decide +kernel) (by decide +kernel) (Nat.le_of_ble_eq_true rfl) (Nat.le_of_ble_eq_true rfl) (by decide +kernel) (fun q2 => ?_)
  refine cx_putF (k := 5) (i := 36) (ty := (.array .int)) (r := (RX1, TX1, 15)) (fs' := [.int (Int32.ofInt 4), .int (Int32.ofInt 0), .int (Int32.ofInt 0), .int (Int32.ofInt 1), .ref q1, .ref q2, .null, .null, .null, .null, .null, .null, .null, .null, .null]) (pc' := 45) X hin rfl rfl (by decide) cw_60 rfl rfl (by decide +kernel) rfl rfl (Nat.le_of_ble_eq_true rfl) rfl (by decide +kernel) ?_
  refine cx_aload (pc' := 46) X rfl hl0 (by decide +kernel) ?_
  refine cx_bipush (n := 24) (pc' := 48) X rfl (by decide +kernel) (by decide +kernel) ?_
  refine cx_newa (atype := .int) (ty := .int) (t := 0) (N := 24) (a0 := (24, .inl (fun j => Int32.ofInt (cx_M.1 4 j)))) (pc' := 50) (cells' := 3) (slots' := 56) X rfl rfl rfl cw_118 rfl rfl (fun _ h => h) (cx_zi (g := cx_M.1 4) (fun _ => rfl)) (by decide +kernel) (by decide +kernel) (by decide +kernel) (Nat.le_of_ble_eq_true rfl) (Nat.le_of_ble_eq_true rfl) (by decide +kernel) (fun q3 => ?_)
  refine cx_putF (k := 6) (i := 39) (ty := (.array .int)) (r := (RX1, TX1, 15)) (fs' := [.int (Int32.ofInt 4), .int (Int32.ofInt 0), .int (Int32.ofInt 0), .int (Int32.ofInt 1), .ref q1, .ref q2, .ref q3, .null, .null, .null, .null, .null, .null, .null, .null]) (pc' := 53) X hin rfl rfl (by decide) cw_62 rfl rfl (by decide +kernel) rfl rfl (Nat.le_of_ble_eq_true rfl) rfl (by decide +kernel) ?_
  refine cx_aload (pc' := 54) X rfl hl0 (by decide +kernel) ?_
  refine cx_bipush (n := 24) (pc' := 56) X rfl (by decide +kernel) (by decide +kernel) ?_
  refine cx_newa (atype := .int) (ty := .int) (t := 0) (N := 24) (a0 := (24, .inl (fun j => Int32.ofInt (cx_M.1 5 j)))) (pc' := 58) (cells' := 4) (slots' := 80) X rfl rfl rfl cw_118 rfl rfl (fun _ h => h) (cx_zi (g := cx_M.1 5) (fun _ => rfl)) (by decide +kernel) (by decide +kernel) (by decide +kernel) (Nat.le_of_ble_eq_true rfl) (Nat.le_of_ble_eq_true rfl) (by decide +kernel) (fun q4 => ?_)
  refine cx_putF (k := 7) (i := 42) (ty := (.array .int)) (r := (RX1, TX1, 15)) (fs' := [.int (Int32.ofInt 4), .int (Int32.ofInt 0), .int (Int32.ofInt 0), .int (Int32.ofInt 1), .ref q1, .ref q2, .ref q3, .ref q4, .null, .null, .null, .null, .null, .null, .null]) (pc' := 61) X hin rfl rfl (by decide) cw_64 rfl rfl (by decide +kernel) rfl rfl (Nat.le_of_ble_eq_true rfl) rfl (by decide +kernel) ?_
  refine cx_aload (pc' := 62) X rfl hl0 (by decide +kernel) ?_
  refine cx_bipush (n := 24) (pc' := 64) X rfl (by decide +kernel) (by decide +kernel) ?_
  refine cx_newa (atype := .int) (ty := .int) (t := 0) (N := 24) (a0 := (24, .inl (fun j => Int32.ofInt (cx_M.1 6 j)))) (pc' := 66) (cells' := 5) (slots' := 104) X rfl rfl rfl cw_118 rfl rfl (fun _ h => h) (cx_zi (g := cx_M.1 6) (fun _ => rfl)) (by decide +kernel) (by decide +kernel) (by decide +kernel) (Nat.le_of_ble_eq_true rfl) (Nat.le_of_ble_eq_true rfl) (by decide +kernel) (fun q5 => ?_)
  refine cx_putF (k := 8) (i := 45) (ty := (.array .int)) (r := (RX1, TX1, 15)) (fs' := [.int (Int32.ofInt 4), .int (Int32.ofInt 0), .int (Int32.ofInt 0), .int (Int32.ofInt 1), .ref q1, .ref q2, .ref q3, .ref q4, .ref q5, .null, .null, .null, .null, .null, .null]) (pc' := 69) X hin rfl rfl (by decide) cw_68 rfl rfl (by decide +kernel) rfl rfl (Nat.le_of_ble_eq_true rfl) rfl (by decide +kernel) ?_
  refine cx_aload (pc' := 70) X rfl hl0 (by decide +kernel) ?_
  refine cx_bipush (n := 24) (pc' := 72) X rfl (by decide +kernel) (by decide +kernel) ?_
  refine cx_newa (atype := .int) (ty := .int) (t := 0) (N := 24) (a0 := (24, .inl (fun j => Int32.ofInt (cx_M.1 7 j)))) (pc' := 74) (cells' := 6) (slots' := 128) X rfl rfl rfl cw_118 rfl rfl (fun _ h => h) (cx_zi (g := cx_M.1 7) (fun _ => rfl)) (by decide +kernel) (by decide +kernel) (by decide +kernel) (Nat.le_of_ble_eq_true rfl) (Nat.le_of_ble_eq_true rfl) (by decide +kernel) (fun q6 => ?_)
  refine cx_putF (k := 9) (i := 48) (ty := (.array .int)) (r := (RX1, TX1, 15)) (fs' := [.int (Int32.ofInt 4), .int (Int32.ofInt 0), .int (Int32.ofInt 0), .int (Int32.ofInt 1), .ref q1, .ref q2, .ref q3, .ref q4, .ref q5, .ref q6, .null, .null, .null, .null, .null]) (pc' := 77) X hin rfl rfl (by decide) cw_70 rfl rfl (by decide +kernel) rfl rfl (Nat.le_of_ble_eq_true rfl) rfl (by decide +kernel) ?_
  refine cx_aload (pc' := 78) X rfl hl0 (by decide +kernel) ?_
  refine cx_bipush (n := 24) (pc' := 80) X rfl (by decide +kernel) (by decide +kernel) ?_
  refine cx_newa (atype := .int) (ty := .int) (t := 0) (N := 24) (a0 := (24, .inl (fun j => Int32.ofInt (cx_M.1 8 j)))) (pc' := 82) (cells' := 7) (slots' := 152) X rfl rfl rfl cw_118 rfl rfl (fun _ h => h) (cx_zi (g := cx_M.1 8) (fun _ => rfl)) (by decide +kernel) (by decide +kernel) (by decide +kernel) (Nat.le_of_ble_eq_true rfl) (Nat.le_of_ble_eq_true rfl) (by decide +kernel) (fun q7 => ?_)
  refine cx_putF (k := 10) (i := 51) (ty := (.array .int)) (r := (RX1, TX1, 15)) (fs' := [.int (Int32.ofInt 4), .int (Int32.ofInt 0), .int (Int32.ofInt 0), .int (Int32.ofInt 1), .ref q1, .ref q2, .ref q3, .ref q4, .ref q5, .ref q6, .ref q7, .null, .null, .null, .null]) (pc' := 85) X hin rfl rfl (by decide) cw_72 rfl rfl (by decide +kernel) rfl rfl (Nat.le_of_ble_eq_true rfl) rfl (by decide +kernel) ?_
  refine cx_aload (pc' := 86) X rfl hl0 (by decide +kernel) ?_
  refine cx_bipush (n := 24) (pc' := 88) X rfl (by decide +kernel) (by decide +kernel) ?_
  refine cx_newa (atype := .boolean) (ty := .boolean) (t := 1) (N := 24) (a0 := (24, .inl (fun j => Int32.ofInt (cx_M.1 9 j)))) (pc' := 90) (cells' := 8) (slots' := 176) X rfl rfl rfl cw_119 rfl rfl (fun _ h => h) (cx_zb (g := cx_M.1 9) (fun _ => rfl)) (by decide +kernel) (by decide +kernel) (by decide +kernel) (Nat.le_of_ble_eq_true rfl) (Nat.le_of_ble_eq_true rfl) (by decide +kernel) (fun q8 => ?_)
  refine cx_putF (k := 11) (i := 54) (ty := (.array .boolean)) (r := (RX1, TX1, 15)) (fs' := [.int (Int32.ofInt 4), .int (Int32.ofInt 0), .int (Int32.ofInt 0), .int (Int32.ofInt 1), .ref q1, .ref q2, .ref q3, .ref q4, .ref q5, .ref q6, .ref q7, .ref q8, .null, .null, .null]) (pc' := 93) X hin rfl rfl (by decide) cw_75 rfl rfl (by decide +kernel) rfl rfl (Nat.le_of_ble_eq_true rfl) rfl (by decide +kernel) ?_
  refine cx_aload (pc' := 94) X rfl hl0 (by decide +kernel) ?_
  refine cx_iconst (n := 4) (pc' := 95) X rfl (by decide +kernel) ?_
  refine cx_iconst (n := 5) (pc' := 96) X rfl (by decide +kernel) ?_
  refine cx_mna (i := 58) (ty := .int) (t := 0) (t2 := 4) (N := 4) (K := 5) (z := (5, .inl (fun j => Int32.ofInt (cx_M.1 11 j)))) (pc' := 100) (cells' := 13) (slots' := 200) X rfl rfl rfl cw_38 hEx.1 cw_118 rfl (fun _ h => h) rfl (by decide +kernel) (by decide +kernel) (by decide +kernel) (by decide +kernel) (by decide +kernel) (by decide +kernel) (by decide +kernel) rfl rfl (Nat.le_of_ble_eq_true rfl) (Nat.le_of_ble_eq_true rfl) (cx_mi (g := cx_M.1 11) (fun _ => rfl)) (by decide +kernel) (fun q9 r9 => ?_)
  refine cx_putF (k := 12) (i := 60) (ty := (.array (.array .int))) (r := (RX1, TX1, 15)) (fs' := [.int (Int32.ofInt 4), .int (Int32.ofInt 0), .int (Int32.ofInt 0), .int (Int32.ofInt 1), .ref q1, .ref q2, .ref q3, .ref q4, .ref q5, .ref q6, .ref q7, .ref q8, .ref q9, .null, .null]) (pc' := 103) X hin rfl rfl (by decide) cw_77 rfl rfl (by decide +kernel) rfl rfl (Nat.le_of_ble_eq_true rfl) rfl (by decide +kernel) ?_
  refine cx_aload (pc' := 104) X rfl hl0 (by decide +kernel) ?_
  refine cx_iconst (n := 4) (pc' := 105) X rfl (by decide +kernel) ?_
  refine cx_newa (atype := .int) (ty := .int) (t := 0) (N := 4) (a0 := (4, .inl (fun j => Int32.ofInt (cx_M.1 15 j)))) (pc' := 107) (cells' := 14) (slots' := 204) X rfl rfl rfl cw_118 rfl rfl (fun _ h => h) (cx_zi (g := cx_M.1 15) (fun _ => rfl)) (by decide +kernel) (by decide +kernel) (by decide +kernel) (Nat.le_of_ble_eq_true rfl) (Nat.le_of_ble_eq_true rfl) (by decide +kernel) (fun q14 => ?_)
  refine cx_putF (k := 13) (i := 63) (ty := (.array .int)) (r := (RX1, TX1, 15)) (fs' := [.int (Int32.ofInt 4), .int (Int32.ofInt 0), .int (Int32.ofInt 0), .int (Int32.ofInt 1), .ref q1, .ref q2, .ref q3, .ref q4, .ref q5, .ref q6, .ref q7, .ref q8, .ref q9, .ref q14, .null]) (pc' := 110) X hin rfl rfl (by decide) cw_81 rfl rfl (by decide +kernel) rfl rfl (Nat.le_of_ble_eq_true rfl) rfl (by decide +kernel) ?_
  refine cx_aload (pc' := 111) X rfl hl0 (by decide +kernel) ?_
  refine cx_iconst (n := 4) (pc' := 112) X rfl (by decide +kernel) ?_
  refine cx_newa (atype := .int) (ty := .int) (t := 0) (N := 4) (a0 := (4, .inl (fun j => Int32.ofInt (cx_M.1 16 j)))) (pc' := 114) (cells' := 15) (slots' := 208) X rfl rfl rfl cw_118 rfl rfl (fun _ h => h) (cx_zi (g := cx_M.1 16) (fun _ => rfl)) (by decide +kernel) (by decide +kernel) (by decide +kernel) (Nat.le_of_ble_eq_true rfl) (Nat.le_of_ble_eq_true rfl) (by decide +kernel) (fun q15 => ?_)
  refine cx_putF (k := 14) (i := 66) (ty := (.array .int)) (r := (RX1, TX1, 15)) (fs' := [.int (Int32.ofInt 4), .int (Int32.ofInt 0), .int (Int32.ofInt 0), .int (Int32.ofInt 1), .ref q1, .ref q2, .ref q3, .ref q4, .ref q5, .ref q6, .ref q7, .ref q8, .ref q9, .ref q14, .ref q15]) (pc' := 117) X hin rfl rfl (by decide) cw_85 rfl rfl (by decide +kernel) rfl rfl (Nat.le_of_ble_eq_true rfl) rfl (by decide +kernel) ?_
  intro H locs hP hD hS
  have hP2 : va_P D vwCl (cx_blk cs 1 16 (fun i => [h0, q1, q2, q3, q4, q5, q6, q7, q8, q9, r9 0, r9 1, r9 2, r9 3, q14, q15].getD i 0)) H := hP
  have hD2 : va_D _ (cx_blk cs 1 16 (fun i => [h0, q1, q2, q3, q4, q5, q6, q7, q8, q9, r9 0, r9 1, r9 2, r9 3, q14, q15].getD i 0)) := hD
  exact W.vret B.exec B.bytes hr (fun t ht hW => ⟨⟨(fun i => [h0, q1, q2, q3, q4, q5, q6, q7, q8, q9, r9 0, r9 1, r9 2, r9 3, q14, q15].getD i 0), rfl, rfl, by rw [ht]; exact hP2, hD2⟩, hS.F ht⟩) hS.2.2 (by decide +kernel)
