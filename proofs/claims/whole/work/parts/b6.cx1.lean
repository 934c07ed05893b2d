/-! small constructors -/
def cx_f2 : List Value := [.int (Int32.ofInt 0), .int (Int32.ofInt 0), .null, .null]
theorem cx_t2 : ∀ k, k < 4 → parseFieldDescriptor (TX2 k).2.2.1 = some (cx_ty TX2 k) := by decide +kernel
theorem cx_d2 : ∀ k, k < 4 → defaultValue (cx_ty TX2 k) = vp_V cx_f2 k := by decide +kernel
set_option maxHeartbeats 4000000 in
set_option maxRecDepth 100000 in
theorem cx_C2 (l : Launch) : cx_Ct l yX2_init cX2_init 1 2 49 3 1 14 2 8 cx_f2 (fun _ _ => True) := by
  intro D cs h0 sz
  refine Met.ofW (cc := cX2_init) (maxL := 1) (ret := none) (by decide) rfl ?_
  intro p e s m args below meth c s₁ B hml hv
  obtain ⟨rfl, hsz, hP, hK, hD0, hEx⟩ := hv
  have hts := atoms_spec (ws := Cond.code yX2_init cX2_init 1 none :: en_gw) B.pre
  have hlocks := B.notSynchronized
  have hr := B.returns
  have hin : meth.name = "<init>" := (name_of_methodNamed B.named B.method).1
  subst hsz
  have hD := hD0.self (sz := s.heap.size)
  have X : cx_F p s m _ c cX2_init RX2 1 (va_A [(h0, .inr (2, cx_f2))] s.heap.size) D cs := ⟨B.exec, B.bytes, hml, findClass_of_methodNamed B.named, fun w hw => hts w (List.mem_cons_of_mem _ hw), hK, fun q h => Or.inr h⟩
  have hl := lv_entry ([.ref h0]) (n := 1) (Nat.le_of_ble_eq_true rfl)
  rw [lg_entry_eq]
  generalize (lg_sl ([.ref h0]) ++ List.replicate (1 - (lg_sl ([.ref h0])).length) Slot.unset).toArray = ls at hl ⊢
  have hl : lv_has ls 1 [(0, .ref h0)] := hl
  have hl0 := lv_at hl 0 rfl
  refine (show cx_W p l e _ s m _ below meth c _ D _ ls h0 2 0 0 0 [.int (Int32.ofInt 0), .int (Int32.ofInt 0), .null, .null] [] [] from ?_) s.heap [] hP hD va_S.rf
  refine cx_aload (pc' := 1) X rfl hl0 (by decide +kernel) ?_
  refine cx_obj (i := 3) (pc' := 4) X rfl hl.1 cw_125 cw_21 cw_22 (Nat.le_of_ble_eq_true rfl) (Nat.le_of_ble_eq_true rfl) (by decide +kernel) ?_
  refine cx_aload (pc' := 5) X rfl hl0 (by decide +kernel) ?_
  refine cx_iconst (n := 0) (pc' := 6) X rfl (by decide +kernel) ?_
  refine cx_put (k := 0) (i := 9) (ty := .int) (r := (RX2, TX2, 4)) (fs' := [.int (Int32.ofInt 0), .int (Int32.ofInt 0), .null, .null]) (pc' := 9) X rfl rfl (by decide) cw_126 rfl (by decide +kernel) rfl rfl (Nat.le_of_ble_eq_true rfl) rfl (by decide +kernel) ?_
  refine cx_aload (pc' := 10) X rfl hl0 (by decide +kernel) ?_
  refine cx_iconst (n := (-1)) (pc' := 11) X rfl (by decide +kernel) ?_
  refine cx_put (k := 1) (i := 15) (ty := .int) (r := (RX2, TX2, 4)) (fs' := [.int (Int32.ofInt 0), .int (Int32.ofInt (-1)), .null, .null]) (pc' := 14) X rfl rfl (by decide) cw_128 rfl (by decide +kernel) rfl rfl (Nat.le_of_ble_eq_true rfl) rfl (by decide +kernel) ?_
  refine cx_aload (pc' := 15) X rfl hl0 (by decide +kernel) ?_
  refine cx_iconst (n := 4) (pc' := 16) X rfl (by decide +kernel) ?_
  refine cx_newa (atype := .int) (ty := .int) (t := 0) (N := 4) (a0 := (4, .inl (fun j => Int32.ofInt (cx_M.1 50 j)))) (pc' := 18) (cells' := 1) (slots' := 4) X rfl rfl rfl cw_118 rfl rfl (fun _ h => h) (cx_zi (g := cx_M.1 50) (fun _ => rfl)) (by decide +kernel) (by decide +kernel) (by decide +kernel) (Nat.le_of_ble_eq_true rfl) (Nat.le_of_ble_eq_true rfl) (by decide +kernel) (fun q1 => ?_)
  refine cx_ws (ws' := [(q1, .inl (cs 0, (4, .inl (fun j => Int32.ofInt (cx_M.1 50 j)))))]) rfl ?_
  refine cx_putF (k := 2) (i := 18) (ty := (.array .int)) (r := (RX2, TX2, 4)) (fs' := [.int (Int32.ofInt 0), .int (Int32.ofInt (-1)), .ref q1, .null]) (pc' := 21) X hin rfl rfl (by decide) cw_130 rfl rfl (by decide +kernel) rfl rfl (Nat.le_of_ble_eq_true rfl) rfl (by decide +kernel) ?_
  refine cx_aload (pc' := 22) X rfl hl0 (by decide +kernel) ?_
  refine cx_iconst (n := 4) (pc' := 23) X rfl (by decide +kernel) ?_
  refine cx_newa (atype := .int) (ty := .int) (t := 0) (N := 4) (a0 := (4, .inl (fun j => Int32.ofInt (cx_M.1 51 j)))) (pc' := 25) (cells' := 2) (slots' := 8) X rfl rfl rfl cw_118 rfl rfl (fun _ h => h) (cx_zi (g := cx_M.1 51) (fun _ => rfl)) (by decide +kernel) (by decide +kernel) (by decide +kernel) (Nat.le_of_ble_eq_true rfl) (Nat.le_of_ble_eq_true rfl) (by decide +kernel) (fun q2 => ?_)
  refine cx_ws (ws' := [(q1, .inl (cs 0, (4, .inl (fun j => Int32.ofInt (cx_M.1 50 j))))), (q2, .inl (cs 0, (4, .inl (fun j => Int32.ofInt (cx_M.1 51 j)))))]) rfl ?_
  refine cx_putF (k := 3) (i := 22) (ty := (.array .int)) (r := (RX2, TX2, 4)) (fs' := [.int (Int32.ofInt 0), .int (Int32.ofInt (-1)), .ref q1, .ref q2]) (pc' := 28) X hin rfl rfl (by decide) cw_132 rfl rfl (by decide +kernel) rfl rfl (Nat.le_of_ble_eq_true rfl) rfl (by decide +kernel) ?_
  intro H locs hP hD hS
  have hP2 : va_P D vwCl (cx_blk cs 49 3 (fun i => [h0, q1, q2].getD i 0)) H := hP
  have hD2 : va_D _ (cx_blk cs 49 3 (fun i => [h0, q1, q2].getD i 0)) := hD
  exact W.vret B.exec B.bytes hr (fun t ht hW => ⟨⟨(fun i => [h0, q1, q2].getD i 0), rfl, rfl, by rw [ht]; exact hP2, hD2⟩, hS.F ht⟩) hS.2.2 (by decide +kernel)
def cx_f0 : List Value := [.int (Int32.ofInt 0), .int (Int32.ofInt 0), .int (Int32.ofInt 0), .int (Int32.ofInt 0), .int (Int32.ofInt 0), .int (Int32.ofInt 0), .int (Int32.ofInt 0), .int (Int32.ofInt 0), .int (Int32.ofInt 0), .null, .null, .null, .null, .null, .int (Int32.ofInt 0), .null, .null, .null]
theorem cx_t0 : ∀ k, k < 18 → parseFieldDescriptor (TX0 k).2.2.1 = some (cx_ty TX0 k) := by decide +kernel
theorem cx_d0 : ∀ k, k < 18 → defaultValue (cx_ty TX0 k) = vp_V cx_f0 k := by decide +kernel
set_option maxHeartbeats 4000000 in
set_option maxRecDepth 100000 in
theorem cx_C0 (l : Launch) : cx_Ct l yX0_init cX0_init 1 0 52 9 1 14 8 161 cx_f0 (fun _ _ => True) := by
  intro D cs h0 sz
  refine Met.ofW (cc := cX0_init) (maxL := 1) (ret := none) (by decide) rfl ?_
  intro p e s m args below meth c s₁ B hml hv
  obtain ⟨rfl, hsz, hP, hK, hD0, hEx⟩ := hv
  have hts := atoms_spec (ws := Cond.code yX0_init cX0_init 1 none :: en_gw) B.pre
  have hlocks := B.notSynchronized
  have hr := B.returns
  have hin : meth.name = "<init>" := (name_of_methodNamed B.named B.method).1
  subst hsz
  have hD := hD0.self (sz := s.heap.size)
  have X : cx_F p s m _ c cX0_init RX0 1 (va_A [(h0, .inr (0, cx_f0))] s.heap.size) D cs := ⟨B.exec, B.bytes, hml, findClass_of_methodNamed B.named, fun w hw => hts w (List.mem_cons_of_mem _ hw), hK, fun q h => Or.inr h⟩
  have hl := lv_entry ([.ref h0]) (n := 1) (Nat.le_of_ble_eq_true rfl)
  rw [lg_entry_eq]
  generalize (lg_sl ([.ref h0]) ++ List.replicate (1 - (lg_sl ([.ref h0])).length) Slot.unset).toArray = ls at hl ⊢
  have hl : lv_has ls 1 [(0, .ref h0)] := hl
  have hl0 := lv_at hl 0 rfl
  refine (show cx_W p l e _ s m _ below meth c _ D _ ls h0 0 0 0 0 [.int (Int32.ofInt 0), .int (Int32.ofInt 0), .int (Int32.ofInt 0), .int (Int32.ofInt 0), .int (Int32.ofInt 0), .int (Int32.ofInt 0), .int (Int32.ofInt 0), .int (Int32.ofInt 0), .int (Int32.ofInt 0), .null, .null, .null, .null, .null, .int (Int32.ofInt 0), .null, .null, .null] [] [] from ?_) s.heap [] hP hD va_S.rf
  refine cx_aload (pc' := 1) X rfl hl0 (by decide +kernel) ?_
  refine cx_obj (i := 3) (pc' := 4) X rfl hl.1 cw_147 cw_21 cw_22 (Nat.le_of_ble_eq_true rfl) (Nat.le_of_ble_eq_true rfl) (by decide +kernel) ?_
  refine cx_aload (pc' := 5) X rfl hl0 (by decide +kernel) ?_
  refine cx_iconst (n := 0) (pc' := 6) X rfl (by decide +kernel) ?_
  refine cx_put (k := 0) (i := 9) (ty := .int) (r := (RX0, TX0, 18)) (fs' := [.int (Int32.ofInt 0), .int (Int32.ofInt 0), .int (Int32.ofInt 0), .int (Int32.ofInt 0), .int (Int32.ofInt 0), .int (Int32.ofInt 0), .int (Int32.ofInt 0), .int (Int32.ofInt 0), .int (Int32.ofInt 0), .null, .null, .null, .null, .null, .int (Int32.ofInt 0), .null, .null, .null]) (pc' := 9) X rfl rfl (by decide) cw_148 rfl (by decide +kernel) rfl rfl (Nat.le_of_ble_eq_true rfl) rfl (by decide +kernel) ?_
  refine cx_aload (pc' := 10) X rfl hl0 (by decide +kernel) ?_
  refine cx_iconst (n := 0) (pc' := 11) X rfl (by decide +kernel) ?_
  refine cx_put (k := 1) (i := 15) (ty := .int) (r := (RX0, TX0, 18)) (fs' := [.int (Int32.ofInt 0), .int (Int32.ofInt 0), .int (Int32.ofInt 0), .int (Int32.ofInt 0), .int (Int32.ofInt 0), .int (Int32.ofInt 0), .int (Int32.ofInt 0), .int (Int32.ofInt 0), .int (Int32.ofInt 0), .null, .null, .null, .null, .null, .int (Int32.ofInt 0), .null, .null, .null]) (pc' := 14) X rfl rfl (by decide) cw_150 rfl (by decide +kernel) rfl rfl (Nat.le_of_ble_eq_true rfl) rfl (by decide +kernel) ?_
  refine cx_aload (pc' := 15) X rfl hl0 (by decide +kernel) ?_
  refine cx_iconst (n := 0) (pc' := 16) X rfl (by decide +kernel) ?_
  refine cx_put (k := 2) (i := 18) (ty := .int) (r := (RX0, TX0, 18)) (fs' := [.int (Int32.ofInt 0), .int (Int32.ofInt 0), .int (Int32.ofInt 0), .int (Int32.ofInt 0), .int (Int32.ofInt 0), .int (Int32.ofInt 0), .int (Int32.ofInt 0), .int (Int32.ofInt 0), .int (Int32.ofInt 0), .null, .null, .null, .null, .null, .int (Int32.ofInt 0), .null, .null, .null]) (pc' := 19) X rfl rfl (by decide) cw_152 rfl (by decide +kernel) rfl rfl (Nat.le_of_ble_eq_true rfl) rfl (by decide +kernel) ?_
  refine cx_aload (pc' := 20) X rfl hl0 (by decide +kernel) ?_
  refine cx_iconst (n := 1) (pc' := 21) X rfl (by decide +kernel) ?_
  refine cx_put (k := 3) (i := 21) (ty := .int) (r := (RX0, TX0, 18)) (fs' := [.int (Int32.ofInt 0), .int (Int32.ofInt 0), .int (Int32.ofInt 0), .int (Int32.ofInt 1), .int (Int32.ofInt 0), .int (Int32.ofInt 0), .int (Int32.ofInt 0), .int (Int32.ofInt 0), .int (Int32.ofInt 0), .null, .null, .null, .null, .null, .int (Int32.ofInt 0), .null, .null, .null]) (pc' := 24) X rfl rfl (by decide) cw_154 rfl (by decide +kernel) rfl rfl (Nat.le_of_ble_eq_true rfl) rfl (by decide +kernel) ?_
  refine cx_aload (pc' := 25) X rfl hl0 (by decide +kernel) ?_
  refine cx_iconst (n := 0) (pc' := 26) X rfl (by decide +kernel) ?_
  refine cx_put (k := 4) (i := 24) (ty := .int) (r := (RX0, TX0, 18)) (fs' := [.int (Int32.ofInt 0), .int (Int32.ofInt 0), .int (Int32.ofInt 0), .int (Int32.ofInt 1), .int (Int32.ofInt 0), .int (Int32.ofInt 0), .int (Int32.ofInt 0), .int (Int32.ofInt 0), .int (Int32.ofInt 0), .null, .null, .null, .null, .null, .int (Int32.ofInt 0), .null, .null, .null]) (pc' := 29) X rfl rfl (by decide) cw_155 rfl (by decide +kernel) rfl rfl (Nat.le_of_ble_eq_true rfl) rfl (by decide +kernel) ?_
  refine cx_aload (pc' := 30) X rfl hl0 (by decide +kernel) ?_
  refine cx_iconst (n := 0) (pc' := 31) X rfl (by decide +kernel) ?_
  refine cx_put (k := 5) (i := 27) (ty := .int) (r := (RX0, TX0, 18)) (fs' := [.int (Int32.ofInt 0), .int (Int32.ofInt 0), .int (Int32.ofInt 0), .int (Int32.ofInt 1), .int (Int32.ofInt 0), .int (Int32.ofInt 0), .int (Int32.ofInt 0), .int (Int32.ofInt 0), .int (Int32.ofInt 0), .null, .null, .null, .null, .null, .int (Int32.ofInt 0), .null, .null, .null]) (pc' := 34) X rfl rfl (by decide) cw_156 rfl (by decide +kernel) rfl rfl (Nat.le_of_ble_eq_true rfl) rfl (by decide +kernel) ?_
  refine cx_aload (pc' := 35) X rfl hl0 (by decide +kernel) ?_
  refine cx_iconst (n := 0) (pc' := 36) X rfl (by decide +kernel) ?_
  refine cx_put (k := 6) (i := 30) (ty := .int) (r := (RX0, TX0, 18)) (fs' := [.int (Int32.ofInt 0), .int (Int32.ofInt 0), .int (Int32.ofInt 0), .int (Int32.ofInt 1), .int (Int32.ofInt 0), .int (Int32.ofInt 0), .int (Int32.ofInt 0), .int (Int32.ofInt 0), .int (Int32.ofInt 0), .null, .null, .null, .null, .null, .int (Int32.ofInt 0), .null, .null, .null]) (pc' := 39) X rfl rfl (by decide) cw_157 rfl (by decide +kernel) rfl rfl (Nat.le_of_ble_eq_true rfl) rfl (by decide +kernel) ?_
  refine cx_aload (pc' := 40) X rfl hl0 (by decide +kernel) ?_
  refine cx_iconst (n := 0) (pc' := 41) X rfl (by decide +kernel) ?_
  refine cx_put (k := 7) (i := 33) (ty := .int) (r := (RX0, TX0, 18)) (fs' := [.int (Int32.ofInt 0), .int (Int32.ofInt 0), .int (Int32.ofInt 0), .int (Int32.ofInt 1), .int (Int32.ofInt 0), .int (Int32.ofInt 0), .int (Int32.ofInt 0), .int (Int32.ofInt 0), .int (Int32.ofInt 0), .null, .null, .null, .null, .null, .int (Int32.ofInt 0), .null, .null, .null]) (pc' := 44) X rfl rfl (by decide) cw_158 rfl (by decide +kernel) rfl rfl (Nat.le_of_ble_eq_true rfl) rfl (by decide +kernel) ?_
  refine cx_aload (pc' := 45) X rfl hl0 (by decide +kernel) ?_
  refine cx_iconst (n := 0) (pc' := 46) X rfl (by decide +kernel) ?_
  refine cx_put (k := 8) (i := 36) (ty := .int) (r := (RX0, TX0, 18)) (fs' := [.int (Int32.ofInt 0), .int (Int32.ofInt 0), .int (Int32.ofInt 0), .int (Int32.ofInt 1), .int (Int32.ofInt 0), .int (Int32.ofInt 0), .int (Int32.ofInt 0), .int (Int32.ofInt 0), .int (Int32.ofInt 0), .null, .null, .null, .null, .null, .int (Int32.ofInt 0), .null, .null, .null]) (pc' := 49) X rfl rfl (by decide) cw_159 rfl (by decide +kernel) rfl rfl (Nat.le_of_ble_eq_true rfl) rfl (by decide +kernel) ?_
  refine cx_aload (pc' := 50) X rfl hl0 (by decide +kernel) ?_
  refine cx_bipush (n := 24) (pc' := 52) X rfl (by decide +kernel) (by decide +kernel) ?_
  refine cx_newa (atype := .int) (ty := .int) (t := 0) (N := 24) (a0 := (24, .inl (fun j => Int32.ofInt (cx_M.1 53 j)))) (pc' := 54) (cells' := 1) (slots' := 24) X rfl rfl rfl cw_118 rfl rfl (fun _ h => h) (cx_zi (g := cx_M.1 53) (fun _ => rfl)) (by decide +kernel) (by decide +kernel) (by decide +kernel) (Nat.le_of_ble_eq_true rfl) (Nat.le_of_ble_eq_true rfl) (by decide +kernel) (fun q1 => ?_)
  refine cx_ws (ws' := [(q1, .inl (cs 0, (24, .inl (fun j => Int32.ofInt (cx_M.1 53 j)))))]) rfl ?_
  refine cx_putF (k := 9) (i := 39) (ty := (.array .int)) (r := (RX0, TX0, 18)) (fs' := [.int (Int32.ofInt 0), .int (Int32.ofInt 0), .int (Int32.ofInt 0), .int (Int32.ofInt 1), .int (Int32.ofInt 0), .int (Int32.ofInt 0), .int (Int32.ofInt 0), .int (Int32.ofInt 0), .int (Int32.ofInt 0), .ref q1, .null, .null, .null, .null, .int (Int32.ofInt 0), .null, .null, .null]) (pc' := 57) X hin rfl rfl (by decide) cw_160 rfl rfl (by decide +kernel) rfl rfl (Nat.le_of_ble_eq_true rfl) rfl (by decide +kernel) ?_
  refine cx_aload (pc' := 58) X rfl hl0 (by decide +kernel) ?_
  refine cx_bipush (n := 24) (pc' := 60) X rfl (by decide +kernel) (by decide +kernel) ?_
  refine cx_newa (atype := .int) (ty := .int) (t := 0) (N := 24) (a0 := (24, .inl (fun j => Int32.ofInt (cx_M.1 54 j)))) (pc' := 62) (cells' := 2) (slots' := 48) X rfl rfl rfl cw_118 rfl rfl (fun _ h => h) (cx_zi (g := cx_M.1 54) (fun _ => rfl)) (by decide +kernel) (by decide +kernel) (by decide +kernel) (Nat.le_of_ble_eq_true rfl) (Nat.le_of_ble_eq_true rfl) (by decide +kernel) (fun q2 => ?_)
  refine cx_ws (ws' := [(q1, .inl (cs 0, (24, .inl (fun j => Int32.ofInt (cx_M.1 53 j))))), (q2, .inl (cs 0, (24, .inl (fun j => Int32.ofInt (cx_M.1 54 j)))))]) rfl ?_
  refine cx_putF (k := 10) (i := 43) (ty := (.array .int)) (r := (RX0, TX0, 18)) (fs' := [.int (Int32.ofInt 0), .int (Int32.ofInt 0), .int (Int32.ofInt 0), .int (Int32.ofInt 1), .int (Int32.ofInt 0), .int (Int32.ofInt 0), .int (Int32.ofInt 0), .int (Int32.ofInt 0), .int (Int32.ofInt 0), .ref q1, .ref q2, .null, .null, .null, .int (Int32.ofInt 0), .null, .null, .null]) (pc' := 65) X hin rfl rfl (by decide) cw_161 rfl rfl (by decide +kernel) rfl rfl (Nat.le_of_ble_eq_true rfl) rfl (by decide +kernel) ?_
  refine cx_aload (pc' := 66) X rfl hl0 (by decide +kernel) ?_
  refine cx_bipush (n := 24) (pc' := 68) X rfl (by decide +kernel) (by decide +kernel) ?_
  refine cx_newa (atype := .int) (ty := .int) (t := 0) (N := 24) (a0 := (24, .inl (fun j => Int32.ofInt (cx_M.1 55 j)))) (pc' := 70) (cells' := 3) (slots' := 72) X rfl rfl rfl cw_118 rfl rfl (fun _ h => h) (cx_zi (g := cx_M.1 55) (fun _ => rfl)) (by decide +kernel) (by decide +kernel) (by decide +kernel) (Nat.le_of_ble_eq_true rfl) (Nat.le_of_ble_eq_true rfl) (by decide +kernel) (fun q3 => ?_)
  refine cx_ws (ws' := [(q1, .inl (cs 0, (24, .inl (fun j => Int32.ofInt (cx_M.1 53 j))))), (q2, .inl (cs 0, (24, .inl (fun j => Int32.ofInt (cx_M.1 54 j))))), (q3, .inl (cs 0, (24, .inl (fun j => Int32.ofInt (cx_M.1 55 j)))))]) rfl ?_
  refine cx_putF (k := 11) (i := 46) (ty := (.array .int)) (r := (RX0, TX0, 18)) (fs' := [.int (Int32.ofInt 0), .int (Int32.ofInt 0), .int (Int32.ofInt 0), .int (Int32.ofInt 1), .int (Int32.ofInt 0), .int (Int32.ofInt 0), .int (Int32.ofInt 0), .int (Int32.ofInt 0), .int (Int32.ofInt 0), .ref q1, .ref q2, .ref q3, .null, .null, .int (Int32.ofInt 0), .null, .null, .null]) (pc' := 73) X hin rfl rfl (by decide) cw_162 rfl rfl (by decide +kernel) rfl rfl (Nat.le_of_ble_eq_true rfl) rfl (by decide +kernel) ?_
  refine cx_aload (pc' := 74) X rfl hl0 (by decide +kernel) ?_
  refine cx_bipush (n := 24) (pc' := 76) X rfl (by decide +kernel) (by decide +kernel) ?_
  refine cx_newa (atype := .boolean) (ty := .boolean) (t := 1) (N := 24) (a0 := (24, .inl (fun j => Int32.ofInt (cx_M.1 56 j)))) (pc' := 78) (cells' := 4) (slots' := 96) X rfl rfl rfl cw_119 rfl rfl (fun _ h => h) (cx_zb (g := cx_M.1 56) (fun _ => rfl)) (by decide +kernel) (by decide +kernel) (by decide +kernel) (Nat.le_of_ble_eq_true rfl) (Nat.le_of_ble_eq_true rfl) (by decide +kernel) (fun q4 => ?_)
  refine cx_ws (ws' := [(q1, .inl (cs 0, (24, .inl (fun j => Int32.ofInt (cx_M.1 53 j))))), (q2, .inl (cs 0, (24, .inl (fun j => Int32.ofInt (cx_M.1 54 j))))), (q3, .inl (cs 0, (24, .inl (fun j => Int32.ofInt (cx_M.1 55 j))))), (q4, .inl (cs 1, (24, .inl (fun j => Int32.ofInt (cx_M.1 56 j)))))]) rfl ?_
  refine cx_putF (k := 12) (i := 49) (ty := (.array .boolean)) (r := (RX0, TX0, 18)) (fs' := [.int (Int32.ofInt 0), .int (Int32.ofInt 0), .int (Int32.ofInt 0), .int (Int32.ofInt 1), .int (Int32.ofInt 0), .int (Int32.ofInt 0), .int (Int32.ofInt 0), .int (Int32.ofInt 0), .int (Int32.ofInt 0), .ref q1, .ref q2, .ref q3, .ref q4, .null, .int (Int32.ofInt 0), .null, .null, .null]) (pc' := 81) X hin rfl rfl (by decide) cw_163 rfl rfl (by decide +kernel) rfl rfl (Nat.le_of_ble_eq_true rfl) rfl (by decide +kernel) ?_
  refine cx_aload (pc' := 82) X rfl hl0 (by decide +kernel) ?_
  refine cx_iconst (n := 5) (pc' := 83) X rfl (by decide +kernel) ?_
  refine cx_newa (atype := .int) (ty := .int) (t := 0) (N := 5) (a0 := (5, .inl (fun j => Int32.ofInt (cx_M.1 57 j)))) (pc' := 85) (cells' := 5) (slots' := 101) X rfl rfl rfl cw_118 rfl rfl (fun _ h => h) (cx_zi (g := cx_M.1 57) (fun _ => rfl)) (by decide +kernel) (by decide +kernel) (by decide +kernel) (Nat.le_of_ble_eq_true rfl) (Nat.le_of_ble_eq_true rfl) (by decide +kernel) (fun q5 => ?_)
  refine cx_ws (ws' := [(q1, .inl (cs 0, (24, .inl (fun j => Int32.ofInt (cx_M.1 53 j))))), (q2, .inl (cs 0, (24, .inl (fun j => Int32.ofInt (cx_M.1 54 j))))), (q3, .inl (cs 0, (24, .inl (fun j => Int32.ofInt (cx_M.1 55 j))))), (q4, .inl (cs 1, (24, .inl (fun j => Int32.ofInt (cx_M.1 56 j))))), (q5, .inl (cs 0, (5, .inl (fun j => Int32.ofInt (cx_M.1 57 j)))))]) rfl ?_
  refine cx_putF (k := 13) (i := 53) (ty := (.array .int)) (r := (RX0, TX0, 18)) (fs' := [.int (Int32.ofInt 0), .int (Int32.ofInt 0), .int (Int32.ofInt 0), .int (Int32.ofInt 1), .int (Int32.ofInt 0), .int (Int32.ofInt 0), .int (Int32.ofInt 0), .int (Int32.ofInt 0), .int (Int32.ofInt 0), .ref q1, .ref q2, .ref q3, .ref q4, .ref q5, .int (Int32.ofInt 0), .null, .null, .null]) (pc' := 88) X hin rfl rfl (by decide) cw_164 rfl rfl (by decide +kernel) rfl rfl (Nat.le_of_ble_eq_true rfl) rfl (by decide +kernel) ?_
  refine cx_aload (pc' := 89) X rfl hl0 (by decide +kernel) ?_
  refine cx_iconst (n := 0) (pc' := 90) X rfl (by decide +kernel) ?_
  refine cx_put (k := 14) (i := 56) (ty := .int) (r := (RX0, TX0, 18)) (fs' := [.int (Int32.ofInt 0), .int (Int32.ofInt 0), .int (Int32.ofInt 0), .int (Int32.ofInt 1), .int (Int32.ofInt 0), .int (Int32.ofInt 0), .int (Int32.ofInt 0), .int (Int32.ofInt 0), .int (Int32.ofInt 0), .ref q1, .ref q2, .ref q3, .ref q4, .ref q5, .int (Int32.ofInt 0), .null, .null, .null]) (pc' := 93) X rfl rfl (by decide) cw_165 rfl (by decide +kernel) rfl rfl (Nat.le_of_ble_eq_true rfl) rfl (by decide +kernel) ?_
  refine cx_aload (pc' := 94) X rfl hl0 (by decide +kernel) ?_
  refine cx_bipush (n := 20) (pc' := 96) X rfl (by decide +kernel) (by decide +kernel) ?_
  refine cx_newa (atype := .int) (ty := .int) (t := 0) (N := 20) (a0 := (20, .inl (fun j => Int32.ofInt (cx_M.1 58 j)))) (pc' := 98) (cells' := 6) (slots' := 121) X rfl rfl rfl cw_118 rfl rfl (fun _ h => h) (cx_zi (g := cx_M.1 58) (fun _ => rfl)) (by decide +kernel) (by decide +kernel) (by decide +kernel) (Nat.le_of_ble_eq_true rfl) (Nat.le_of_ble_eq_true rfl) (by decide +kernel) (fun q6 => ?_)
  refine cx_ws (ws' := [(q1, .inl (cs 0, (24, .inl (fun j => Int32.ofInt (cx_M.1 53 j))))), (q2, .inl (cs 0, (24, .inl (fun j => Int32.ofInt (cx_M.1 54 j))))), (q3, .inl (cs 0, (24, .inl (fun j => Int32.ofInt (cx_M.1 55 j))))), (q4, .inl (cs 1, (24, .inl (fun j => Int32.ofInt (cx_M.1 56 j))))), (q5, .inl (cs 0, (5, .inl (fun j => Int32.ofInt (cx_M.1 57 j))))), (q6, .inl (cs 0, (20, .inl (fun j => Int32.ofInt (cx_M.1 58 j)))))]) rfl ?_
  refine cx_putF (k := 15) (i := 59) (ty := (.array .int)) (r := (RX0, TX0, 18)) (fs' := [.int (Int32.ofInt 0), .int (Int32.ofInt 0), .int (Int32.ofInt 0), .int (Int32.ofInt 1), .int (Int32.ofInt 0), .int (Int32.ofInt 0), .int (Int32.ofInt 0), .int (Int32.ofInt 0), .int (Int32.ofInt 0), .ref q1, .ref q2, .ref q3, .ref q4, .ref q5, .int (Int32.ofInt 0), .ref q6, .null, .null]) (pc' := 101) X hin rfl rfl (by decide) cw_166 rfl rfl (by decide +kernel) rfl rfl (Nat.le_of_ble_eq_true rfl) rfl (by decide +kernel) ?_
  refine cx_aload (pc' := 102) X rfl hl0 (by decide +kernel) ?_
  refine cx_bipush (n := 20) (pc' := 104) X rfl (by decide +kernel) (by decide +kernel) ?_
  refine cx_newa (atype := .int) (ty := .int) (t := 0) (N := 20) (a0 := (20, .inl (fun j => Int32.ofInt (cx_M.1 59 j)))) (pc' := 106) (cells' := 7) (slots' := 141) X rfl rfl rfl cw_118 rfl rfl (fun _ h => h) (cx_zi (g := cx_M.1 59) (fun _ => rfl)) (by decide +kernel) (by decide +kernel) (by decide +kernel) (Nat.le_of_ble_eq_true rfl) (Nat.le_of_ble_eq_true rfl) (by decide +kernel) (fun q7 => ?_)
  refine cx_ws (ws' := [(q1, .inl (cs 0, (24, .inl (fun j => Int32.ofInt (cx_M.1 53 j))))), (q2, .inl (cs 0, (24, .inl (fun j => Int32.ofInt (cx_M.1 54 j))))), (q3, .inl (cs 0, (24, .inl (fun j => Int32.ofInt (cx_M.1 55 j))))), (q4, .inl (cs 1, (24, .inl (fun j => Int32.ofInt (cx_M.1 56 j))))), (q5, .inl (cs 0, (5, .inl (fun j => Int32.ofInt (cx_M.1 57 j))))), (q6, .inl (cs 0, (20, .inl (fun j => Int32.ofInt (cx_M.1 58 j))))), (q7, .inl (cs 0, (20, .inl (fun j => Int32.ofInt (cx_M.1 59 j)))))]) rfl ?_
  refine cx_putF (k := 16) (i := 62) (ty := (.array .int)) (r := (RX0, TX0, 18)) (fs' := [.int (Int32.ofInt 0), .int (Int32.ofInt 0), .int (Int32.ofInt 0), .int (Int32.ofInt 1), .int (Int32.ofInt 0), .int (Int32.ofInt 0), .int (Int32.ofInt 0), .int (Int32.ofInt 0), .int (Int32.ofInt 0), .ref q1, .ref q2, .ref q3, .ref q4, .ref q5, .int (Int32.ofInt 0), .ref q6, .ref q7, .null]) (pc' := 109) X hin rfl rfl (by decide) cw_167 rfl rfl (by decide +kernel) rfl rfl (Nat.le_of_ble_eq_true rfl) rfl (by decide +kernel) ?_
  refine cx_aload (pc' := 110) X rfl hl0 (by decide +kernel) ?_
  refine cx_bipush (n := 20) (pc' := 112) X rfl (by decide +kernel) (by decide +kernel) ?_
  refine cx_newa (atype := .int) (ty := .int) (t := 0) (N := 20) (a0 := (20, .inl (fun j => Int32.ofInt (cx_M.1 60 j)))) (pc' := 114) (cells' := 8) (slots' := 161) X rfl rfl rfl cw_118 rfl rfl (fun _ h => h) (cx_zi (g := cx_M.1 60) (fun _ => rfl)) (by decide +kernel) (by decide +kernel) (by decide +kernel) (Nat.le_of_ble_eq_true rfl) (Nat.le_of_ble_eq_true rfl) (by decide +kernel) (fun q8 => ?_)
  refine cx_ws (ws' := [(q1, .inl (cs 0, (24, .inl (fun j => Int32.ofInt (cx_M.1 53 j))))), (q2, .inl (cs 0, (24, .inl (fun j => Int32.ofInt (cx_M.1 54 j))))), (q3, .inl (cs 0, (24, .inl (fun j => Int32.ofInt (cx_M.1 55 j))))), (q4, .inl (cs 1, (24, .inl (fun j => Int32.ofInt (cx_M.1 56 j))))), (q5, .inl (cs 0, (5, .inl (fun j => Int32.ofInt (cx_M.1 57 j))))), (q6, .inl (cs 0, (20, .inl (fun j => Int32.ofInt (cx_M.1 58 j))))), (q7, .inl (cs 0, (20, .inl (fun j => Int32.ofInt (cx_M.1 59 j))))), (q8, .inl (cs 0, (20, .inl (fun j => Int32.ofInt (cx_M.1 60 j)))))]) rfl ?_
  refine cx_putF (k := 17) (i := 65) (ty := (.array .int)) (r := (RX0, TX0, 18)) (fs' := [.int (Int32.ofInt 0), .int (Int32.ofInt 0), .int (Int32.ofInt 0), .int (Int32.ofInt 1), .int (Int32.ofInt 0), .int (Int32.ofInt 0), .int (Int32.ofInt 0), .int (Int32.ofInt 0), .int (Int32.ofInt 0), .ref q1, .ref q2, .ref q3, .ref q4, .ref q5, .int (Int32.ofInt 0), .ref q6, .ref q7, .ref q8]) (pc' := 117) X hin rfl rfl (by decide) cw_168 rfl rfl (by decide +kernel) rfl rfl (Nat.le_of_ble_eq_true rfl) rfl (by decide +kernel) ?_
  intro H locs hP hD hS
  have hP2 : va_P D vwCl (cx_blk cs 52 9 (fun i => [h0, q1, q2, q3, q4, q5, q6, q7, q8].getD i 0)) H := hP
  have hD2 : va_D _ (cx_blk cs 52 9 (fun i => [h0, q1, q2, q3, q4, q5, q6, q7, q8].getD i 0)) := hD
  exact W.vret B.exec B.bytes hr (fun t ht hW => ⟨⟨(fun i => [h0, q1, q2, q3, q4, q5, q6, q7, q8].getD i 0), rfl, rfl, by rw [ht]; exact hP2, hD2⟩, hS.F ht⟩) hS.2.2 (by decide +kernel)
def cx_f3 : List Value := [.int (Int32.ofInt 0), .int (Int32.ofInt 0), .int (Int32.ofInt 0), .int (Int32.ofInt 0), .int (Int32.ofInt 0), .null, .null, .null, .int (Int32.ofInt 0)]
theorem cx_t3 : ∀ k, k < 9 → parseFieldDescriptor (TX3 k).2.2.1 = some (cx_ty TX3 k) := by decide +kernel
theorem cx_d3 : ∀ k, k < 9 → defaultValue (cx_ty TX3 k) = vp_V cx_f3 k := by decide +kernel
set_option maxHeartbeats 4000000 in
set_option maxRecDepth 100000 in
theorem cx_C3 (l : Launch) : cx_Ct l yX3_init cX3_init 1 3 61 4 1 14 3 260 cx_f3 (fun _ _ => True) := by
  intro D cs h0 sz
  refine Met.ofW (cc := cX3_init) (maxL := 1) (ret := none) (by decide) rfl ?_
  intro p e s m args below meth c s₁ B hml hv
  obtain ⟨rfl, hsz, hP, hK, hD0, hEx⟩ := hv
  have hts := atoms_spec (ws := Cond.code yX3_init cX3_init 1 none :: en_gw) B.pre
  have hlocks := B.notSynchronized
  have hr := B.returns
  have hin : meth.name = "<init>" := (name_of_methodNamed B.named B.method).1
  subst hsz
  have hD := hD0.self (sz := s.heap.size)
  have X : cx_F p s m _ c cX3_init RX3 1 (va_A [(h0, .inr (3, cx_f3))] s.heap.size) D cs := ⟨B.exec, B.bytes, hml, findClass_of_methodNamed B.named, fun w hw => hts w (List.mem_cons_of_mem _ hw), hK, fun q h => Or.inr h⟩
  have hl := lv_entry ([.ref h0]) (n := 1) (Nat.le_of_ble_eq_true rfl)
  rw [lg_entry_eq]
  generalize (lg_sl ([.ref h0]) ++ List.replicate (1 - (lg_sl ([.ref h0])).length) Slot.unset).toArray = ls at hl ⊢
  have hl : lv_has ls 1 [(0, .ref h0)] := hl
  have hl0 := lv_at hl 0 rfl
  refine (show cx_W p l e _ s m _ below meth c _ D _ ls h0 3 0 0 0 [.int (Int32.ofInt 0), .int (Int32.ofInt 0), .int (Int32.ofInt 0), .int (Int32.ofInt 0), .int (Int32.ofInt 0), .null, .null, .null, .int (Int32.ofInt 0)] [] [] from ?_) s.heap [] hP hD va_S.rf
  refine cx_aload (pc' := 1) X rfl hl0 (by decide +kernel) ?_
  refine cx_obj (i := 3) (pc' := 4) X rfl hl.1 cw_211 cw_21 cw_22 (Nat.le_of_ble_eq_true rfl) (Nat.le_of_ble_eq_true rfl) (by decide +kernel) ?_
  refine cx_aload (pc' := 5) X rfl hl0 (by decide +kernel) ?_
  refine cx_iconst (n := 0) (pc' := 6) X rfl (by decide +kernel) ?_
  refine cx_put (k := 0) (i := 9) (ty := .int) (r := (RX3, TX3, 9)) (fs' := [.int (Int32.ofInt 0), .int (Int32.ofInt 0), .int (Int32.ofInt 0), .int (Int32.ofInt 0), .int (Int32.ofInt 0), .null, .null, .null, .int (Int32.ofInt 0)]) (pc' := 9) X rfl rfl (by decide) cw_212 rfl (by decide +kernel) rfl rfl (Nat.le_of_ble_eq_true rfl) rfl (by decide +kernel) ?_
  refine cx_aload (pc' := 10) X rfl hl0 (by decide +kernel) ?_
  refine cx_iconst (n := 0) (pc' := 11) X rfl (by decide +kernel) ?_
  refine cx_put (k := 1) (i := 15) (ty := .int) (r := (RX3, TX3, 9)) (fs' := [.int (Int32.ofInt 0), .int (Int32.ofInt 0), .int (Int32.ofInt 0), .int (Int32.ofInt 0), .int (Int32.ofInt 0), .null, .null, .null, .int (Int32.ofInt 0)]) (pc' := 14) X rfl rfl (by decide) cw_214 rfl (by decide +kernel) rfl rfl (Nat.le_of_ble_eq_true rfl) rfl (by decide +kernel) ?_
  refine cx_aload (pc' := 15) X rfl hl0 (by decide +kernel) ?_
  refine cx_iconst (n := 0) (pc' := 16) X rfl (by decide +kernel) ?_
  refine cx_put (k := 2) (i := 18) (ty := .int) (r := (RX3, TX3, 9)) (fs' := [.int (Int32.ofInt 0), .int (Int32.ofInt 0), .int (Int32.ofInt 0), .int (Int32.ofInt 0), .int (Int32.ofInt 0), .null, .null, .null, .int (Int32.ofInt 0)]) (pc' := 19) X rfl rfl (by decide) cw_216 rfl (by decide +kernel) rfl rfl (Nat.le_of_ble_eq_true rfl) rfl (by decide +kernel) ?_
  refine cx_aload (pc' := 20) X rfl hl0 (by decide +kernel) ?_
  refine cx_iconst (n := 0) (pc' := 21) X rfl (by decide +kernel) ?_
  refine cx_put (k := 3) (i := 21) (ty := .int) (r := (RX3, TX3, 9)) (fs' := [.int (Int32.ofInt 0), .int (Int32.ofInt 0), .int (Int32.ofInt 0), .int (Int32.ofInt 0), .int (Int32.ofInt 0), .null, .null, .null, .int (Int32.ofInt 0)]) (pc' := 24) X rfl rfl (by decide) cw_218 rfl (by decide +kernel) rfl rfl (Nat.le_of_ble_eq_true rfl) rfl (by decide +kernel) ?_
  refine cx_aload (pc' := 25) X rfl hl0 (by decide +kernel) ?_
  refine cx_iconst (n := 0) (pc' := 26) X rfl (by decide +kernel) ?_
  refine cx_put (k := 4) (i := 24) (ty := .int) (r := (RX3, TX3, 9)) (fs' := [.int (Int32.ofInt 0), .int (Int32.ofInt 0), .int (Int32.ofInt 0), .int (Int32.ofInt 0), .int (Int32.ofInt 0), .null, .null, .null, .int (Int32.ofInt 0)]) (pc' := 29) X rfl rfl (by decide) cw_219 rfl (by decide +kernel) rfl rfl (Nat.le_of_ble_eq_true rfl) rfl (by decide +kernel) ?_
  refine cx_aload (pc' := 30) X rfl hl0 (by decide +kernel) ?_
  refine cx_sipush (n := 250) (pc' := 33) X rfl (by decide +kernel) (by decide +kernel) ?_
  refine cx_newa (atype := .int) (ty := .int) (t := 0) (N := 250) (a0 := (250, .inl (fun j => Int32.ofInt (cx_M.1 62 j)))) (pc' := 35) (cells' := 1) (slots' := 250) X rfl rfl rfl cw_118 rfl rfl (fun _ h => h) (cx_zi (g := cx_M.1 62) (fun _ => rfl)) (by decide +kernel) (by decide +kernel) (by decide +kernel) (Nat.le_of_ble_eq_true rfl) (Nat.le_of_ble_eq_true rfl) (by decide +kernel) (fun q1 => ?_)
  refine cx_ws (ws' := [(q1, .inl (cs 0, (250, .inl (fun j => Int32.ofInt (cx_M.1 62 j)))))]) rfl ?_
  refine cx_putF (k := 5) (i := 27) (ty := (.array .int)) (r := (RX3, TX3, 9)) (fs' := [.int (Int32.ofInt 0), .int (Int32.ofInt 0), .int (Int32.ofInt 0), .int (Int32.ofInt 0), .int (Int32.ofInt 0), .ref q1, .null, .null, .int (Int32.ofInt 0)]) (pc' := 38) X hin rfl rfl (by decide) cw_220 rfl rfl (by decide +kernel) rfl rfl (Nat.le_of_ble_eq_true rfl) rfl (by decide +kernel) ?_
  refine cx_aload (pc' := 39) X rfl hl0 (by decide +kernel) ?_
  refine cx_iconst (n := 5) (pc' := 40) X rfl (by decide +kernel) ?_
  refine cx_newa (atype := .int) (ty := .int) (t := 0) (N := 5) (a0 := (5, .inl (fun j => Int32.ofInt (cx_M.1 63 j)))) (pc' := 42) (cells' := 2) (slots' := 255) X rfl rfl rfl cw_118 rfl rfl (fun _ h => h) (cx_zi (g := cx_M.1 63) (fun _ => rfl)) (by decide +kernel) (by decide +kernel) (by decide +kernel) (Nat.le_of_ble_eq_true rfl) (Nat.le_of_ble_eq_true rfl) (by decide +kernel) (fun q2 => ?_)
  refine cx_ws (ws' := [(q1, .inl (cs 0, (250, .inl (fun j => Int32.ofInt (cx_M.1 62 j))))), (q2, .inl (cs 0, (5, .inl (fun j => Int32.ofInt (cx_M.1 63 j)))))]) rfl ?_
  refine cx_putF (k := 6) (i := 31) (ty := (.array .int)) (r := (RX3, TX3, 9)) (fs' := [.int (Int32.ofInt 0), .int (Int32.ofInt 0), .int (Int32.ofInt 0), .int (Int32.ofInt 0), .int (Int32.ofInt 0), .ref q1, .ref q2, .null, .int (Int32.ofInt 0)]) (pc' := 45) X hin rfl rfl (by decide) cw_221 rfl rfl (by decide +kernel) rfl rfl (Nat.le_of_ble_eq_true rfl) rfl (by decide +kernel) ?_
  refine cx_aload (pc' := 46) X rfl hl0 (by decide +kernel) ?_
  refine cx_iconst (n := 5) (pc' := 47) X rfl (by decide +kernel) ?_
  refine cx_newa (atype := .long) (ty := .long) (t := 2) (N := 5) (a0 := (5, .inr (.inl (fun j => Int64.ofInt (cx_M.2 64 j))))) (pc' := 49) (cells' := 3) (slots' := 260) X rfl rfl rfl cw_243 rfl rfl (fun _ h => h) (cx_zl (g := cx_M.2 64) (fun _ => rfl)) (by decide +kernel) (by decide +kernel) (by decide +kernel) (Nat.le_of_ble_eq_true rfl) (Nat.le_of_ble_eq_true rfl) (by decide +kernel) (fun q3 => ?_)
  refine cx_ws (ws' := [(q1, .inl (cs 0, (250, .inl (fun j => Int32.ofInt (cx_M.1 62 j))))), (q2, .inl (cs 0, (5, .inl (fun j => Int32.ofInt (cx_M.1 63 j))))), (q3, .inl (cs 2, (5, .inr (.inl (fun j => Int64.ofInt (cx_M.2 64 j))))))]) rfl ?_
  refine cx_putF (k := 7) (i := 34) (ty := (.array .long)) (r := (RX3, TX3, 9)) (fs' := [.int (Int32.ofInt 0), .int (Int32.ofInt 0), .int (Int32.ofInt 0), .int (Int32.ofInt 0), .int (Int32.ofInt 0), .ref q1, .ref q2, .ref q3, .int (Int32.ofInt 0)]) (pc' := 52) X hin rfl rfl (by decide) cw_222 rfl rfl (by decide +kernel) rfl rfl (Nat.le_of_ble_eq_true rfl) rfl (by decide +kernel) ?_
  refine cx_aload (pc' := 53) X rfl hl0 (by decide +kernel) ?_
  refine cx_iconst (n := 0) (pc' := 54) X rfl (by decide +kernel) ?_
  refine cx_put (k := 8) (i := 38) (ty := .int) (r := (RX3, TX3, 9)) (fs' := [.int (Int32.ofInt 0), .int (Int32.ofInt 0), .int (Int32.ofInt 0), .int (Int32.ofInt 0), .int (Int32.ofInt 0), .ref q1, .ref q2, .ref q3, .int (Int32.ofInt 0)]) (pc' := 57) X rfl rfl (by decide) cw_223 rfl (by decide +kernel) rfl rfl (Nat.le_of_ble_eq_true rfl) rfl (by decide +kernel) ?_
  intro H locs hP hD hS
  have hP2 : va_P D vwCl (cx_blk cs 61 4 (fun i => [h0, q1, q2, q3].getD i 0)) H := hP
  have hD2 : va_D _ (cx_blk cs 61 4 (fun i => [h0, q1, q2, q3].getD i 0)) := hD
  exact W.vret B.exec B.bytes hr (fun t ht hW => ⟨⟨(fun i => [h0, q1, q2, q3].getD i 0), rfl, rfl, by rw [ht]; exact hP2, hD2⟩, hS.F ht⟩) hS.2.2 (by decide +kernel)
def cx_f4 : List Value := [.int (Int32.ofInt 0), .int (Int32.ofInt 0), .int (Int32.ofInt 0), .null]
theorem cx_t4 : ∀ k, k < 4 → parseFieldDescriptor (TX4 k).2.2.1 = some (cx_ty TX4 k) := by decide +kernel
theorem cx_d4 : ∀ k, k < 4 → defaultValue (cx_ty TX4 k) = vp_V cx_f4 k := by decide +kernel
set_option maxHeartbeats 4000000 in
set_option maxRecDepth 100000 in
theorem cx_C4 (l : Launch) : cx_Ct l yX4_init cX4_init 1 4 68 2 1 14 1 40 cx_f4 (fun _ _ => True) := by
  intro D cs h0 sz
  refine Met.ofW (cc := cX4_init) (maxL := 1) (ret := none) (by decide) rfl ?_
  intro p e s m args below meth c s₁ B hml hv
  obtain ⟨rfl, hsz, hP, hK, hD0, hEx⟩ := hv
  have hts := atoms_spec (ws := Cond.code yX4_init cX4_init 1 none :: en_gw) B.pre
  have hlocks := B.notSynchronized
  have hr := B.returns
  have hin : meth.name = "<init>" := (name_of_methodNamed B.named B.method).1
  subst hsz
  have hD := hD0.self (sz := s.heap.size)
  have X : cx_F p s m _ c cX4_init RX4 1 (va_A [(h0, .inr (4, cx_f4))] s.heap.size) D cs := ⟨B.exec, B.bytes, hml, findClass_of_methodNamed B.named, fun w hw => hts w (List.mem_cons_of_mem _ hw), hK, fun q h => Or.inr h⟩
  have hl := lv_entry ([.ref h0]) (n := 1) (Nat.le_of_ble_eq_true rfl)
  rw [lg_entry_eq]
  generalize (lg_sl ([.ref h0]) ++ List.replicate (1 - (lg_sl ([.ref h0])).length) Slot.unset).toArray = ls at hl ⊢
  have hl : lv_has ls 1 [(0, .ref h0)] := hl
  have hl0 := lv_at hl 0 rfl
  refine (show cx_W p l e _ s m _ below meth c _ D _ ls h0 4 0 0 0 [.int (Int32.ofInt 0), .int (Int32.ofInt 0), .int (Int32.ofInt 0), .null] [] [] from ?_) s.heap [] hP hD va_S.rf
  refine cx_aload (pc' := 1) X rfl hl0 (by decide +kernel) ?_
  refine cx_obj (i := 3) (pc' := 4) X rfl hl.1 cw_250 cw_21 cw_22 (Nat.le_of_ble_eq_true rfl) (Nat.le_of_ble_eq_true rfl) (by decide +kernel) ?_
  refine cx_aload (pc' := 5) X rfl hl0 (by decide +kernel) ?_
  refine cx_iconst (n := (-1)) (pc' := 6) X rfl (by decide +kernel) ?_
  refine cx_put (k := 0) (i := 9) (ty := .int) (r := (RX4, TX4, 4)) (fs' := [.int (Int32.ofInt (-1)), .int (Int32.ofInt 0), .int (Int32.ofInt 0), .null]) (pc' := 9) X rfl rfl (by decide) cw_251 rfl (by decide +kernel) rfl rfl (Nat.le_of_ble_eq_true rfl) rfl (by decide +kernel) ?_
  refine cx_aload (pc' := 10) X rfl hl0 (by decide +kernel) ?_
  refine cx_iconst (n := 0) (pc' := 11) X rfl (by decide +kernel) ?_
  refine cx_put (k := 1) (i := 15) (ty := .int) (r := (RX4, TX4, 4)) (fs' := [.int (Int32.ofInt (-1)), .int (Int32.ofInt 0), .int (Int32.ofInt 0), .null]) (pc' := 14) X rfl rfl (by decide) cw_253 rfl (by decide +kernel) rfl rfl (Nat.le_of_ble_eq_true rfl) rfl (by decide +kernel) ?_
  refine cx_aload (pc' := 15) X rfl hl0 (by decide +kernel) ?_
  refine cx_iconst (n := (-1)) (pc' := 16) X rfl (by decide +kernel) ?_
  refine cx_put (k := 2) (i := 18) (ty := .int) (r := (RX4, TX4, 4)) (fs' := [.int (Int32.ofInt (-1)), .int (Int32.ofInt 0), .int (Int32.ofInt (-1)), .null]) (pc' := 19) X rfl rfl (by decide) cw_255 rfl (by decide +kernel) rfl rfl (Nat.le_of_ble_eq_true rfl) rfl (by decide +kernel) ?_
  refine cx_aload (pc' := 20) X rfl hl0 (by decide +kernel) ?_
  refine cx_bipush (n := 40) (pc' := 22) X rfl (by decide +kernel) (by decide +kernel) ?_
  refine cx_newa (atype := .long) (ty := .long) (t := 2) (N := 40) (a0 := (40, .inr (.inl (fun j => Int64.ofInt (cx_M.2 69 j))))) (pc' := 24) (cells' := 1) (slots' := 40) X rfl rfl rfl cw_243 rfl rfl (fun _ h => h) (cx_zl (g := cx_M.2 69) (fun _ => rfl)) (by decide +kernel) (by decide +kernel) (by decide +kernel) (Nat.le_of_ble_eq_true rfl) (Nat.le_of_ble_eq_true rfl) (by decide +kernel) (fun q1 => ?_)
  refine cx_ws (ws' := [(q1, .inl (cs 2, (40, .inr (.inl (fun j => Int64.ofInt (cx_M.2 69 j))))))]) rfl ?_
  refine cx_putF (k := 3) (i := 21) (ty := (.array .long)) (r := (RX4, TX4, 4)) (fs' := [.int (Int32.ofInt (-1)), .int (Int32.ofInt 0), .int (Int32.ofInt (-1)), .ref q1]) (pc' := 27) X hin rfl rfl (by decide) cw_257 rfl rfl (by decide +kernel) rfl rfl (Nat.le_of_ble_eq_true rfl) rfl (by decide +kernel) ?_
  intro H locs hP hD hS
  have hP2 : va_P D vwCl (cx_blk cs 68 2 (fun i => [h0, q1].getD i 0)) H := hP
  have hD2 : va_D _ (cx_blk cs 68 2 (fun i => [h0, q1].getD i 0)) := hD
  exact W.vret B.exec B.bytes hr (fun t ht hW => ⟨⟨(fun i => [h0, q1].getD i 0), rfl, rfl, by rw [ht]; exact hP2, hD2⟩, hS.F ht⟩) hS.2.2 (by decide +kernel)
