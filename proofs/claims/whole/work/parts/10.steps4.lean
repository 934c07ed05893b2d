/-! constants, copies, calls, returns -/
section EN4
variable {ad : Nat → Nat} {H : Heap} {locs : List Loc} {lsA : Array Slot}
variable {p : Program} {l : Launch} {e : Env} {R : Room} {s : State} {m : MethodId} {args : Array Value} {below : List Frame} {meth : Method} {c : Code} {Q : State → Prop} {cc : ByteArray} {own : String} {nL h bu0 : Nat} {A : Nat → Prop} {cd : Nat → Nat → Nat} {D : va_G} {cs : Nat → ClassId} {sc : Nat × (Nat → Int)} {ad0 : Nat → Nat} {M0 : Mm} {pc : Nat} {ls : AL} {st r : List AV} {M : Mm} {bu : Nat} {k : AK} {K : Nat → AK}
theorem en_s_gets (X : en_Fx p R s m args c cc own nL h bu0 A cd D cs sc) {i n : Nat} (hn : n < 4) (hw : Cond.fieldLink own i "TownRiverBeast" (en_sn.getD n "") "[I" ∈ en_gw) (hdg : decode cc pc = .ok (.getstatic i, 3)) (hk : ∀ ls st M bu, k ls st M bu → en_At p l e R s m args below meth c Q nL A cd D cs ad0 M0 sc.1 bu0 (pc + 3) ls st M bu) (hs : k ls (.inr (.inr (6, n, 0)) :: st) M bu) : en_At p l e R s m args below meth c Q nL A cd D cs ad0 M0 sc.1 bu0 pc ls st M bu := by
  intro hb ad H locs lsA I
  exact va_gets X.1 X.2.1 (X.2.2.2.2.2.2.1.1 n hn).1 I.2.2.2.2.2.2.2.1 X.2.2.2.1 (X.2.2.2.2.1 _ hw) (fun _ z => z) hdg (hk _ _ _ _ hs hb ad H locs lsA (I.pu (Or.inr (Or.inl ⟨rfl, hn⟩))))
theorem en_s_getsN (X : en_Fx p R s m args c cc own nL h bu0 A cd D cs sc) {i n : Nat} (hn : n < 4) (hw : Cond.fieldLinkNest own i "TownRiverBeast" (en_sn.getD n "") "[I" "TownRiverBeast" ∈ en_nest) (hdg : decode cc pc = .ok (.getstatic i, 3)) (hk : ∀ ls st M bu, k ls st M bu → en_At p l e R s m args below meth c Q nL A cd D cs ad0 M0 sc.1 bu0 (pc + 3) ls st M bu) (hs : k ls (.inr (.inr (6, n, 0)) :: st) M bu) : en_At p l e R s m args below meth c Q nL A cd D cs ad0 M0 sc.1 bu0 pc ls st M bu := by
  intro hb ad H locs lsA I
  exact va_getsN X.1 X.2.1 (X.2.2.2.2.2.2.1.1 n hn).1 I.2.2.2.2.2.2.2.1 X.2.2.2.1 (va_Nw.use rfl (X.2.2.2.2.2.2.1.2.2.2.2.2 _ hw)) (fun _ z => z) hdg (hk _ _ _ _ hs hb ad H locs lsA (I.pu (Or.inr (Or.inl ⟨rfl, hn⟩))))
theorem en_s_getsC (X : en_Fx p R s m args c cc own nL h bu0 A cd D cs sc) {i : Nat} (hw : Cond.fieldLink own i "java/lang/String" "COMPACT_STRINGS" "Z" ∈ en_gw) (hdg : decode cc pc = .ok (.getstatic i, 3)) (hk : ∀ ls st M bu, k ls st M bu → en_At p l e R s m args below meth c Q nL A cd D cs ad0 M0 sc.1 bu0 (pc + 3) ls st M bu) (hs : k ls (.inl 1 :: st) M bu) : en_At p l e R s m args below meth c Q nL A cd D cs ad0 M0 sc.1 bu0 pc ls st M bu := by
  intro hb ad H locs lsA I
  exact va_gets X.1 X.2.1 X.2.2.2.2.2.2.1.2.1 I.2.2.2.2.2.2.2.1 X.2.2.2.1 (X.2.2.2.2.1 _ hw) (fun _ z => z) hdg (hk _ _ _ _ hs hb ad H locs lsA (I.pu (en_okI _ _ _)))
theorem en_s_getsF (X : en_Fx p R s m args c cc own nL h bu0 A cd D cs sc) {i : Nat} (hw : Cond.fieldLink own i "jdk/internal/util/Preconditions" "SIOOBE_FORMATTER" "Ljava/util/function/BiFunction;" ∈ en_gw) (hdg : decode cc pc = .ok (.getstatic i, 3)) (hk : ∀ ls st M bu, k ls st M bu → en_At p l e R s m args below meth c Q nL A cd D cs ad0 M0 sc.1 bu0 (pc + 3) ls st M bu) (hs : k ls (.inr (.inr (10, 0, 0)) :: st) M bu) : en_At p l e R s m args below meth c Q nL A cd D cs ad0 M0 sc.1 bu0 pc ls st M bu := by
  intro hb ad H locs lsA I
  exact va_gets X.1 X.2.1 X.2.2.2.2.2.2.1.2.2.1 I.2.2.2.2.2.2.2.1 X.2.2.2.1 (X.2.2.2.2.1 _ hw) (fun _ z => z) hdg (hk _ _ _ _ hs hb ad H locs lsA (I.pu (Or.inr (Or.inr (Or.inr (Or.inr (Or.inr rfl)))))))
theorem en_ok6 {sL n a : Nat} (h : en_ok sL M (.inr (.inr (6, n, a)))) : n < 4 := by
  rcases h with h | h | h | h | h | h <;> omega
theorem en_ok7 {sL n a : Nat} (h : en_ok sL M (.inr (.inr (7, n, a)))) : n < 9 := by
  rcases h with h | h | h | h | h | h <;> omega
theorem en_ok8 {sL n a : Nat} (h : en_ok sL M (.inr (.inr (8, n, a)))) : n < 9 := by
  rcases h with h | h | h | h | h | h <;> omega
theorem en_ok9 {sL n a : Nat} (h : en_ok sL M (.inr (.inr (9, n, a)))) : n + 1 = sL := by
  rcases h with h | h | h | h | h | h <;> omega
theorem en_sv_len {n : Nat} : (en_sv.getD n []).length < 2 ^ 31 := by
  match n with
  | 0 => decide
  | 1 => decide
  | 2 => decide
  | 3 => decide
  | n + 4 => exact (by decide : ([] : List Int).length < 2 ^ 31)
theorem en_s_ti (X : en_Fx p R s m args c cc own nL h bu0 A cd D cs sc) {n a : Nat} {i : Int} (hdg : decode cc pc = .ok (.iaload, 1)) (hk : ∀ ls st M bu, k ls st M bu → en_At p l e R s m args below meth c Q nL A cd D cs ad0 M0 sc.1 bu0 (pc + 1) ls st M bu) (hs : en_ix i ((en_sv.getD n []).length) (fun j => k ls (.inl ((en_sv.getD n []).getD j 0) :: r) M bu)) : en_At p l e R s m args below meth c Q nL A cd D cs ad0 M0 sc.1 bu0 pc ls (.inl i :: .inr (.inr (6, n, a)) :: r) M bu := by
  intro hb ad H locs lsA I
  have hn := en_ok6 I.tl.hd
  obtain ⟨j, rfl, hj, hs⟩ := hs
  obtain ⟨g1, g2⟩ := en_ix_in hj en_sv_len
  exact va_ti X.1 X.2.1 (X.2.2.2.2.2.2.1.1 n hn).2 I.2.2.2.2.2.2.2.1 g1 (by rw [g2]; rfl) hdg (hk _ _ _ _ hs hb ad H locs lsA (I.tl.tl.pu (en_okI _ _ _)))
theorem en_s_tlen (X : en_Fx p R s m args c cc own nL h bu0 A cd D cs sc) {n a : Nat} (hdg : decode cc pc = .ok (.arraylength, 1)) (hk : ∀ ls st M bu, k ls st M bu → en_At p l e R s m args below meth c Q nL A cd D cs ad0 M0 sc.1 bu0 (pc + 1) ls st M bu) (hs : k ls (.inl (((en_sv.getD n []).length : Nat) : Int) :: r) M bu) : en_At p l e R s m args below meth c Q nL A cd D cs ad0 M0 sc.1 bu0 pc ls (.inr (.inr (6, n, a)) :: r) M bu := by
  intro hb ad H locs lsA I
  exact va_tlen X.1 X.2.1 (X.2.2.2.2.2.2.1.1 n (en_ok6 I.hd)).2 I.2.2.2.2.2.2.2.1 (Int32.ofInt_eq_ofNat).symm hdg (hk _ _ _ _ hs hb ad H locs lsA (I.tl.pu (en_okI _ _ _)))
/-- the script -/
theorem en_s_sld (X : en_Fx p R s m args c cc own nL h bu0 A cd D cs sc) {n a : Nat} {i : Int} (hdg : decode cc pc = .ok (.iaload, 1)) (hk : ∀ ls st M bu, k ls st M bu → en_At p l e R s m args below meth c Q nL A cd D cs ad0 M0 sc.1 bu0 (pc + 1) ls st M bu) (hs : en_ix i n (fun j => k ls (.inl (sc.2 j) :: r) M bu)) : en_At p l e R s m args below meth c Q nL A cd D cs ad0 M0 sc.1 bu0 pc ls (.inl i :: .inr (.inr (9, n, a)) :: r) M bu := by
  intro hb ad H locs lsA I
  obtain ⟨z1, z2, z3, z4⟩ := X.2.2.2.2.2.2.2.2.2 n (en_ok9 I.tl.hd)
  obtain ⟨j, rfl, hj, hs⟩ := hs
  obtain ⟨g1, g2⟩ := en_ix_in hj z4
  refine va_sld X.1 X.2.1 z1 z2 z3 I.2.2.2.2.2.2.2.1 g1 hdg ?_
  rw [g2]
  exact hk _ _ _ _ hs hb ad H locs lsA (I.tl.tl.pu (en_okI _ _ _))
theorem en_s_slen (X : en_Fx p R s m args c cc own nL h bu0 A cd D cs sc) {n a : Nat} (hdg : decode cc pc = .ok (.arraylength, 1)) (hk : ∀ ls st M bu, k ls st M bu → en_At p l e R s m args below meth c Q nL A cd D cs ad0 M0 sc.1 bu0 (pc + 1) ls st M bu) (hs : k ls (.inl (n : Nat) :: r) M bu) : en_At p l e R s m args below meth c Q nL A cd D cs ad0 M0 sc.1 bu0 pc ls (.inr (.inr (9, n, a)) :: r) M bu := by
  intro hb ad H locs lsA I
  obtain ⟨z1, z2, z3, z4⟩ := X.2.2.2.2.2.2.2.2.2 n (en_ok9 I.hd)
  have hh := hk _ _ _ _ hs hb ad H locs lsA (I.tl.pu (en_okI _ _ _))
  refine va_slen X.1 X.2.1 z1 z2 z3 I.2.2.2.2.2.2.2.1 hdg ?_
  rw [← Int32.ofInt_eq_ofNat]
  exact hh
/-- Strings -/
theorem en_by_at {n j : Nat} (hj : j < en_ln n) : ((en_by.map (fun l => l.map Int32.ofInt)).getD n []).getD j 0 = Int32.ofInt ((en_by.getD n []).getD j 0) := by
  unfold en_ln at hj
  have e : (en_by.map (fun l => l.map Int32.ofInt)).getD n [] = (en_by.getD n []).map Int32.ofInt := by
    rw [List.getD_eq_getElem?_getD, List.getD_eq_getElem?_getD, List.getElem?_map]
    cases en_by[n]? <;> rfl
  rw [e]
  generalize en_by.getD n [] = L at hj ⊢
  rw [List.getD_eq_getElem?_getD, List.getD_eq_getElem?_getD, List.getElem?_map, List.getElem?_eq_getElem hj]
  rfl
theorem en_ln_eq {n : Nat} : (en_by.map List.length).getD n 0 = en_ln n := by
  unfold en_ln
  rw [List.getD_eq_getElem?_getD, List.getD_eq_getElem?_getD, List.getElem?_map]
  cases en_by[n]? <;> rfl
theorem en_ln_lt {n : Nat} : en_ln n < 2 ^ 31 := by
  match n with
  | 0 => decide
  | 1 => decide
  | 2 => decide
  | 3 => decide
  | 4 => decide
  | 5 => decide
  | 6 => decide
  | 7 => decide
  | 8 => decide
  | n + 9 => exact (by decide : ([] : List Int).length < 2 ^ 31)
theorem en_s_tb (X : en_Fx p R s m args c cc own nL h bu0 A cd D cs sc) {n a : Nat} {i : Int} (hdg : decode cc pc = .ok (.baload, 1)) (hk : ∀ ls st M bu, k ls st M bu → en_At p l e R s m args below meth c Q nL A cd D cs ad0 M0 sc.1 bu0 (pc + 1) ls st M bu) (hs : en_ix i (en_ln n) (fun j => k ls (.inl ((en_by.getD n []).getD j 0) :: r) M bu)) : en_At p l e R s m args below meth c Q nL A cd D cs ad0 M0 sc.1 bu0 pc ls (.inl i :: .inr (.inr (8, n, a)) :: r) M bu := by
  intro hb ad H locs lsA I
  have hn := en_ok8 I.tl.hd
  obtain ⟨j, rfl, hj, hs⟩ := hs
  obtain ⟨g1, g2⟩ := en_ix_in hj en_ln_lt
  have hT := (X.2.2.2.2.2.2.1.2.2.2.2.1.1 n hn).2.2.2
  rw [en_ln_eq] at hT
  exact va_tb X.1 X.2.1 hT I.2.2.2.2.2.2.2.1 g1 (by rw [g2, en_by_at hj]; rfl) hdg (hk _ _ _ _ hs hb ad H locs lsA (I.tl.tl.pu (en_okI _ _ _)))
theorem en_s_tblen (X : en_Fx p R s m args c cc own nL h bu0 A cd D cs sc) {n a : Nat} (hdg : decode cc pc = .ok (.arraylength, 1)) (hk : ∀ ls st M bu, k ls st M bu → en_At p l e R s m args below meth c Q nL A cd D cs ad0 M0 sc.1 bu0 (pc + 1) ls st M bu) (hs : k ls (.inl ((en_ln n : Nat) : Int) :: r) M bu) : en_At p l e R s m args below meth c Q nL A cd D cs ad0 M0 sc.1 bu0 pc ls (.inr (.inr (8, n, a)) :: r) M bu := by
  intro hb ad H locs lsA I
  have hT := (X.2.2.2.2.2.2.1.2.2.2.2.1.1 n (en_ok8 I.hd)).2.2.2
  rw [en_ln_eq] at hT
  exact va_tlen X.1 X.2.1 hT I.2.2.2.2.2.2.2.1 (Int32.ofInt_eq_ofNat).symm hdg (hk _ _ _ _ hs hb ad H locs lsA (I.tl.pu (en_okI _ _ _)))
theorem en_s_gval (X : en_Fx p R s m args c cc own nL h bu0 A cd D cs sc) {i n a : Nat} (hw : Cond.fieldLink own i "java/lang/String" "value" "[B" ∈ en_gw) (hdg : decode cc pc = .ok (.getfield i, 3)) (hk : ∀ ls st M bu, k ls st M bu → en_At p l e R s m args below meth c Q nL A cd D cs ad0 M0 sc.1 bu0 (pc + 3) ls st M bu) (hs : k ls (.inr (.inr (8, n, 0)) :: r) M bu) : en_At p l e R s m args below meth c Q nL A cd D cs ad0 M0 sc.1 bu0 pc ls (.inr (.inr (7, n, a)) :: r) M bu := by
  intro hb ad H locs lsA I
  have hn := en_ok7 I.hd
  exact vk_getf X.1 X.2.1 (X.2.2.2.2.2.2.1.2.2.2.2.1.1 n hn).2.2.1 I.2.2.2.2.2.2.2.1 X.2.2.2.1 (X.2.2.2.2.1 _ hw) (fun _ z => z) hdg (hk _ _ _ _ hs hb ad H locs lsA (I.tl.pu (Or.inr (Or.inr (Or.inr (Or.inl ⟨rfl, hn⟩))))))
theorem en_s_gcod (X : en_Fx p R s m args c cc own nL h bu0 A cd D cs sc) {i n a : Nat} (hw : Cond.fieldLink own i "java/lang/String" "coder" "B" ∈ en_gw) (hdg : decode cc pc = .ok (.getfield i, 3)) (hk : ∀ ls st M bu, k ls st M bu → en_At p l e R s m args below meth c Q nL A cd D cs ad0 M0 sc.1 bu0 (pc + 3) ls st M bu) (hs : k ls (.inl 0 :: r) M bu) : en_At p l e R s m args below meth c Q nL A cd D cs ad0 M0 sc.1 bu0 pc ls (.inr (.inr (7, n, a)) :: r) M bu := by
  intro hb ad H locs lsA I
  exact vk_getf X.1 X.2.1 (X.2.2.2.2.2.2.1.2.2.2.2.1.1 n (en_ok7 I.hd)).2.1 I.2.2.2.2.2.2.2.1 X.2.2.2.1 (X.2.2.2.2.1 _ hw) (fun _ z => z) hdg (hk _ _ _ _ hs hb ad H locs lsA (I.tl.pu (en_okI _ _ _)))
/-- copies -/
theorem en_nat_of {n : Nat} (h : n < 2 ^ 31) : (Int32.ofInt (n : Int)).toNatClampNeg = n ∧ ¬ Int32.ofInt (n : Int) < 0 := by
  rw [Int32.ofInt_eq_ofNat]
  exact ⟨nI_clamp h, nI_pos h⟩
theorem en_s_cpi (X : en_Fx p R s m args c cc own nL h bu0 A cd D cs sc) {o i j a0 a1 n0 n1 sp dp n : Nat} (ho : en_cn.getD o "" = own) (hj : en_xlk[j]? = some (o, i, 1000)) (h1 : sp + n ≤ n0) (h2 : dp + n ≤ n1) (hr : (Nat.ble (en_sum r) 8 && Nat.ble 1 h) = true) (hdg : decode cc pc = .ok (.invokestatic i, 3)) (hk : ∀ ls st M bu, k ls st M bu → en_At p l e R s m args below meth c Q nL A cd D cs ad0 M0 sc.1 bu0 (pc + 3) ls st M bu) (hs : k ls r (en_cI M a0 a1 sp dp n) bu) : en_At p l e R s m args below meth c Q nL A cd D cs ad0 M0 sc.1 bu0 pc ls (.inl (n : Int) :: .inl (dp : Int) :: .inr (.inr (2, n1, a1)) :: .inl (sp : Int) :: .inr (.inr (2, n0, a0)) :: r) M bu := by
  intro hb ad H locs lsA I
  obtain ⟨hl1, ha1⟩ := en_ok_ref I.tl.tl.hd (by decide) (by decide)
  obtain ⟨hl0, ha0⟩ := en_ok_ref I.tl.tl.tl.tl.hd (by decide) (by decide)
  have m0 := en_lay_n hl0
  have m1 := en_lay_n hl1
  obtain ⟨i0, hi0, hj0⟩ := en_wd_at (ad := ad) (cs := cs) ha0
  obtain ⟨i1, hi1, hj1⟩ := en_wd_at (ad := ad) (cs := cs) ha1
  rw [en_at2 hl0] at hj0
  rw [en_at2 hl1] at hj1
  have hlk := en_link_X hj
  rw [ho] at hlk
  simp only [Bool.and_eq_true, Nat.ble_eq] at hr
  obtain ⟨f1, f2, f3, f4⟩ := X.2.2.2.2.2.2.2.1
  obtain ⟨q1, q2⟩ := en_nat_of (n := sp) (by omega)
  obtain ⟨q3, q4⟩ := en_nat_of (n := dp) (by omega)
  obtain ⟨q5, q6⟩ := en_nat_of (n := n) (by omega)
  refine va_copyi X.1 X.2.1 (by rw [X.2.2.1, I.1]) X.2.2.2.1 (X.2.2.2.2.1 _ hlk) (X.2.2.2.2.1 _ (en_w_m (by simp))) (X.2.2.2.2.1 _ (en_w_m (by simp))) (X.2.2.2.2.1 _ (en_w_m (by simp))) X.2.2.2.2.2.1 I.2.2.2.2.2.1 I.2.2.2.2.2.2.1 I.2.2.2.2.2.2.2.1 i0 i1 0 0 hj0 hj1 rfl rfl rfl q2 q4 q6 (by rw [q1, q5]; exact h1) (by rw [q3, q5]; exact h2) (fun _ _ => rfl) (by omega) (by rw [en_sum_eq]; show en_sum r + (7 + 11) ≤ _; omega) hdg (fun H1 locs1 hP hD hS => ?_)
  have hpl := en_pl_cI (M := M) (a0 := a0) (a1 := a1) (sp := sp) (dp := dp) (n := n) (en_ne84 hl1 (by decide))
  have hcp : va_cpy (fun j => Int32.ofInt (M.1 a0 j)) (fun j => Int32.ofInt (M.1 a1 j)) sp dp n = fun j => Int32.ofInt ((en_cI M a0 a1 sp dp n).1 a1 j) := by
    funext j
    show _ = Int32.ofInt ((if a1 = a1 then va_cpy (M.1 a0) (M.1 a1) sp dp n else M.1 a1) j)
    rw [if_pos rfl]
    unfold va_cpy
    by_cases hq : dp ≤ j ∧ j < dp + n
    · rw [if_pos hq, if_pos hq]
    · rw [if_neg hq, if_neg hq]
  rw [q1, q3, q5, hcp, ← en_at2 (ad := ad) hl1, en_wd_set hi1 hpl (fun b hb => en_cell_congr (by simp [en_cI, hb]) rfl)] at hP hD
  exact hk _ _ _ _ hs hb ad H1 locs1 lsA (I.tl.tl.tl.tl.tl.wr hpl hP hD hS)
theorem en_s_cpl (X : en_Fx p R s m args c cc own nL h bu0 A cd D cs sc) {o i j a0 a1 n0 n1 sp dp n : Nat} (ho : en_cn.getD o "" = own) (hj : en_xlk[j]? = some (o, i, 1000)) (h1 : sp + n ≤ n0) (h2 : dp + n ≤ n1) (hr : (Nat.ble (en_sum r) 8 && Nat.ble 1 h) = true) (hdg : decode cc pc = .ok (.invokestatic i, 3)) (hk : ∀ ls st M bu, k ls st M bu → en_At p l e R s m args below meth c Q nL A cd D cs ad0 M0 sc.1 bu0 (pc + 3) ls st M bu) (hs : k ls r (en_cL M a0 a1 sp dp n) bu) : en_At p l e R s m args below meth c Q nL A cd D cs ad0 M0 sc.1 bu0 pc ls (.inl (n : Int) :: .inl (dp : Int) :: .inr (.inr (4, n1, a1)) :: .inl (sp : Int) :: .inr (.inr (4, n0, a0)) :: r) M bu := by
  intro hb ad H locs lsA I
  obtain ⟨hl1, ha1⟩ := en_ok_ref I.tl.tl.hd (by decide) (by decide)
  obtain ⟨hl0, ha0⟩ := en_ok_ref I.tl.tl.tl.tl.hd (by decide) (by decide)
  have m0 := en_lay_n hl0
  have m1 := en_lay_n hl1
  obtain ⟨i0, hi0, hj0⟩ := en_wd_at (ad := ad) (cs := cs) ha0
  obtain ⟨i1, hi1, hj1⟩ := en_wd_at (ad := ad) (cs := cs) ha1
  rw [en_at4 hl0] at hj0
  rw [en_at4 hl1] at hj1
  have hlk := en_link_X hj
  rw [ho] at hlk
  simp only [Bool.and_eq_true, Nat.ble_eq] at hr
  obtain ⟨f1, f2, f3, f4⟩ := X.2.2.2.2.2.2.2.1
  obtain ⟨q1, q2⟩ := en_nat_of (n := sp) (by omega)
  obtain ⟨q3, q4⟩ := en_nat_of (n := dp) (by omega)
  obtain ⟨q5, q6⟩ := en_nat_of (n := n) (by omega)
  refine va_copyl X.1 X.2.1 (by rw [X.2.2.1, I.1]) X.2.2.2.1 (X.2.2.2.2.1 _ hlk) (X.2.2.2.2.1 _ (en_w_m (by simp))) (X.2.2.2.2.1 _ (en_w_m (by simp))) (X.2.2.2.2.1 _ (en_w_m (by simp))) X.2.2.2.2.2.1 I.2.2.2.2.2.1 I.2.2.2.2.2.2.1 I.2.2.2.2.2.2.2.1 i0 i1 2 2 hj0 hj1 rfl rfl rfl q2 q4 q6 (by rw [q1, q5]; exact h1) (by rw [q3, q5]; exact h2) (fun _ _ => rfl) (by omega) (by rw [en_sum_eq]; show en_sum r + (7 + 11) ≤ _; omega) hdg (fun H1 locs1 hP hD hS => ?_)
  have hpl := en_pl_cL (M := M) (a0 := a0) (a1 := a1) (sp := sp) (dp := dp) (n := n)
  have hcp : va_cpy (fun j => Int64.ofInt (M.2 a0 j)) (fun j => Int64.ofInt (M.2 a1 j)) sp dp n = fun j => Int64.ofInt ((en_cL M a0 a1 sp dp n).2 a1 j) := by
    funext j
    show _ = Int64.ofInt ((if a1 = a1 then va_cpy (M.2 a0) (M.2 a1) sp dp n else M.2 a1) j)
    rw [if_pos rfl]
    unfold va_cpy
    by_cases hq : dp ≤ j ∧ j < dp + n
    · rw [if_pos hq, if_pos hq]
    · rw [if_neg hq, if_neg hq]
  rw [q1, q3, q5, hcp, ← en_at4 (ad := ad) hl1, en_wd_set hi1 hpl (fun b hb => en_cell_congr rfl (by simp [en_cL, hb]))] at hP hD
  exact hk _ _ _ _ hs hb ad H1 locs1 lsA (I.tl.tl.tl.tl.tl.wr hpl hP hD hS)
theorem en_s_max (X : en_Fx p R s m args c cc own nL h bu0 A cd D cs sc) {o i j : Nat} {a b : Int} (ho : en_cn.getD o "" = own) (hj : en_xlk[j]? = some (o, i, 1001)) (hr : (Nat.ble (en_sum r) 8 && Nat.ble 1 h) = true) (hdg : decode cc pc = .ok (.invokestatic i, 3)) (hk : ∀ ls st M bu, k ls st M bu → en_At p l e R s m args below meth c Q nL A cd D cs ad0 M0 sc.1 bu0 (pc + 3) ls st M bu) (hs : k ls (.inl (if en_wr a < en_wr b then b else a) :: r) M bu) : en_At p l e R s m args below meth c Q nL A cd D cs ad0 M0 sc.1 bu0 pc ls (.inl b :: .inl a :: r) M bu := by
  intro hb ad H locs lsA I
  have hlk := en_link_X hj
  rw [ho] at hlk
  simp only [Bool.and_eq_true, Nat.ble_eq] at hr
  obtain ⟨f1, f2, f3, f4⟩ := X.2.2.2.2.2.2.2.1
  have hh := hk _ _ _ _ hs hb ad H locs lsA (I.tl.tl.pu (en_okI _ _ _))
  refine va_mmax X.1 X.2.1 (by rw [X.2.2.1, I.1]) X.2.2.2.1 (X.2.2.2.2.1 _ hlk) (X.2.2.2.2.1 _ (en_w_m (by simp))) (X.2.2.2.2.1 _ (en_w_m (by simp))) (X.2.2.2.2.1 _ (en_w_m (by simp))) (by omega) (by rw [en_sum_eq]; omega) (by have := Nat.mul_le_mul_left 37 (Nat.sub_le bu0 bu); omega) (by have := Nat.mul_le_mul_left 932 (Nat.sub_le bu0 bu); omega) hdg ?_
  rw [List.map_cons, show en_rv ad cd (.inl (if en_wr a < en_wr b then b else a)) = .int (if Int32.ofInt a < Int32.ofInt b then Int32.ofInt b else Int32.ofInt a) from congrArg Value.int (by
    by_cases hq : Int32.ofInt a < Int32.ofInt b
    · rw [if_pos hq, if_pos (en_lt_iff.mp hq)]
    · rw [if_neg hq, if_neg (fun z => hq (en_lt_iff.mpr z))])] at hh
  exact hh
theorem en_s_min (X : en_Fx p R s m args c cc own nL h bu0 A cd D cs sc) {o i j : Nat} {a b : Int} (ho : en_cn.getD o "" = own) (hj : en_xlk[j]? = some (o, i, 1002)) (hr : (Nat.ble (en_sum r) 8 && Nat.ble 1 h) = true) (hdg : decode cc pc = .ok (.invokestatic i, 3)) (hk : ∀ ls st M bu, k ls st M bu → en_At p l e R s m args below meth c Q nL A cd D cs ad0 M0 sc.1 bu0 (pc + 3) ls st M bu) (hs : k ls (.inl (if en_wr b < en_wr a then b else a) :: r) M bu) : en_At p l e R s m args below meth c Q nL A cd D cs ad0 M0 sc.1 bu0 pc ls (.inl b :: .inl a :: r) M bu := by
  intro hb ad H locs lsA I
  have hlk := en_link_X hj
  rw [ho] at hlk
  simp only [Bool.and_eq_true, Nat.ble_eq] at hr
  obtain ⟨f1, f2, f3, f4⟩ := X.2.2.2.2.2.2.2.1
  have hh := hk _ _ _ _ hs hb ad H locs lsA (I.tl.tl.pu (en_okI _ _ _))
  refine va_mmin X.1 X.2.1 (by rw [X.2.2.1, I.1]) X.2.2.2.1 (X.2.2.2.2.1 _ hlk) (X.2.2.2.2.1 _ (en_w_m (by simp))) (X.2.2.2.2.1 _ (en_w_m (by simp))) (X.2.2.2.2.1 _ (en_w_m (by simp))) (by omega) (by rw [en_sum_eq]; omega) (by have := Nat.mul_le_mul_left 37 (Nat.sub_le bu0 bu); omega) (by have := Nat.mul_le_mul_left 932 (Nat.sub_le bu0 bu); omega) hdg ?_
  rw [List.map_cons, show en_rv ad cd (.inl (if en_wr b < en_wr a then b else a)) = .int (if Int32.ofInt b < Int32.ofInt a then Int32.ofInt b else Int32.ofInt a) from congrArg Value.int (by
    by_cases hq : Int32.ofInt b < Int32.ofInt a
    · rw [if_pos hq, if_pos (en_lt_iff.mp hq)]
    · rw [if_neg hq, if_neg (fun z => hq (en_lt_iff.mpr z))])] at hh
  exact hh
end EN4
