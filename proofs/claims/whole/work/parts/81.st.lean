/-- how many of the first n shelves hold something -/
def siM (M : Mm) : Nat → Nat
  | 0 => 0
  | n + 1 => siM M n + (if M.1 85 n = 0 then 0 else 1)
theorem siM_le {M : Mm} : ∀ n, siM M n ≤ n
  | 0 => Nat.le_refl 0
  | n + 1 => by
    have := siM_le (M := M) n
    unfold siM
    split <;> omega
def stX (M : Mm) (E : Ev) (t : Int) : Int := if 3 ≤ t ∧ t ≤ 10 then M.1 2 (t - 3).toNat else if 12 ≤ t ∧ t ≤ 16 then M.1 66 (t - 12).toNat else if t = 0 then M.1 1 0 else if t = 1 then M.1 1 1 else if t = 2 then M.1 1 2 else if t = 11 then M.1 61 0 else if t = 17 then M.1 1 3 else if t = 18 then ((siM M 8 : Nat) : Int) else if t = 19 then ((s_us E (E.1 0 1).toNat : Nat) : Int) else -1
def stM (M : Mm) (E : Ev) (t : Int) : Int := if 3 ≤ t ∧ t ≤ 10 then M.1 115 (t - 3).toNat else if 12 ≤ t ∧ t ≤ 16 then M.1 100 (t - 10).toNat else if t = 0 then M.1 84 9 else if t = 1 then M.1 84 10 else if t = 2 then M.1 84 18 else if t = 11 then M.1 84 7 else if t = 17 then M.1 84 23 else if t = 18 then ((siM M 8 : Nat) : Int) else if t = 19 then ((s_us E (E.1 0 1).toNat : Nat) : Int) else -1
theorem L_siu {post : Option AV → Mm → Prop} (M : Mm) (hS : cS M) (hq : post (some (.inl ((siM M 8 : Nat) : Int))) M) : ∀ (n : Nat) (i : Nat), (i + n = 8) → en_AW 3 0 131 post 4 [some (.inr (.inr (1, 5, 0))), some (.inl ((siM M i : Nat) : Int)), some (.inl ((i : Nat) : Int))] [] M 0 := by
  intro n
  induction n with
  | zero =>
    intro i hi
    refine aw_131_4 ?_
    refine br_ge_y (a := ((i : Nat) : Int)) (b := 8) (by omega) (by omega) (by omega) ?_
    refine aw_131_43 ?_
    rw [show i = 8 by omega]
    exact hq
  | succ n ih =>
    intro i hi
    have hz := sMk hS (k := i) (by omega)
    have hA : -1 ≤ M.1 (68 + 2 * i) 0 ∧ M.1 (68 + 2 * i) 0 ≤ 10 := sh_X hS (by omega)
    have hb := siM_le (M := M) i
    refine aw_131_4 ?_
    refine br_ge_n (a := ((i : Nat) : Int)) (b := 8) (by omega) (by omega) (by omega) ?_
    refine ⟨i, rfl, (show i < 8 by omega), ?_⟩
    by_cases c2 : 0 ≤ M.1 (68 + 2 * i) 0 ∧ M.1 (68 + 2 * i) 0 ≤ 4
    · refine ⟨2, 0, by first | decide | omega, by first | decide | omega, en_Ct_t (R_hasRow (68 + 2 * i) M (by omega)) c2 ?_⟩
      refine br_ne_y (by decide) (by decide) (by decide) ?_
      refine aw_131_34 ?_
      refine aw_131_37 ?_
      refine en_AW_ls (congrArg (fun z_ : Int => ([some (.inr (.inr (1, 5, 0))), some (.inl z_), some (.inl (((i : Nat) : Int) + 1))] : AL)) (show ((siM M i : Nat) : Int) + 1 = ((siM M (i + 1) : Nat) : Int) from by rw [siM, if_neg (by omega)]; omega)) ?_
      exact ih (i + 1) (by omega)
    · refine ⟨2, 0, by first | decide | omega, by first | decide | omega, en_Ct_f (R_hasRow (68 + 2 * i) M (by omega)) c2 ?_⟩
      refine br_ne_n (by decide) (by decide) (by decide) ?_
      refine ⟨i, rfl, (show i < 8 by omega), ?_⟩
      by_cases c5 : M.1 (68 + 2 * i) 0 = 10
      · refine ⟨1, 0, by first | decide | omega, by first | decide | omega, en_Ct_t (R_hasWord (68 + 2 * i) M (by omega)) c5 ?_⟩
        refine br_eq_n (by decide) (by decide) (by decide) ?_
        refine aw_131_34 ?_
        refine aw_131_37 ?_
        refine en_AW_ls (congrArg (fun z_ : Int => ([some (.inr (.inr (1, 5, 0))), some (.inl z_), some (.inl (((i : Nat) : Int) + 1))] : AL)) (show ((siM M i : Nat) : Int) + 1 = ((siM M (i + 1) : Nat) : Int) from by rw [siM, if_neg (by omega)]; omega)) ?_
        exact ih (i + 1) (by omega)
      · refine ⟨1, 0, by first | decide | omega, by first | decide | omega, en_Ct_f (R_hasWord (68 + 2 * i) M (by omega)) c5 ?_⟩
        refine br_eq_y (by decide) (by decide) (by decide) ?_
        refine aw_131_37 ?_
        refine en_AW_ls (congrArg (fun z_ : Int => ([some (.inr (.inr (1, 5, 0))), some (.inl z_), some (.inl (((i : Nat) : Int) + 1))] : AL)) (show ((siM M i : Nat) : Int) = ((siM M (i + 1) : Nat) : Int) from by rw [siM, if_pos (by omega)]; omega)) ?_
        exact ih (i + 1) (by omega)
theorem R_siu (M : Mm) (hS : cS M) : en_Ct 3 0 131 [.inr (.inr (1, 5, 0))] M (fun r M' => r = some (.inl (((siM M 8 : Nat) : Int))) ∧ M' = M) := by
  refine ct_131 rfl ?_
  refine aw_131_0 ?_
  exact L_siu M hS ⟨rfl, rfl⟩ 8 0 (by omega)
theorem R_statusX (E : Ev) (M : Mm) (hI : isE M 1 E) (hg : s_ok E) (hS : cS M) (t : Int) (ht : -2147483648 ≤ t ∧ t < 2147483648) : en_Ct 9 0 118 [.inr (.inr (1, 5, 0)), .inl t] M (fun r M' => r = some (.inl (stX M E t)) ∧ M' = M) := by
  obtain ⟨n0, n1, n2, a0, a1, a2, a3, a4, a5, a6, a7⟩ := hg.1
  have r0 : M.1 1 0 = E.1 0 0 := r0_I hI 0
  have r1 : M.1 1 1 = E.1 0 1 := r0_I hI 1
  have r2 : M.1 1 2 = E.1 0 2 := r0_I hI 2
  refine ct_118 rfl ?_
  refine aw_118_0 ?_
  by_cases c1 : 3 ≤ t ∧ t ≤ 10
  · refine ⟨1, 0, by first | decide | omega, by first | decide | omega, en_Ct_t (R_within t 3 10 (by omega) (by omega) (by omega) _) c1 ?_⟩
    refine br_eq_n (by decide) (by decide) (by decide) ?_
    refine ⟨(t - 3).toNat, it_nn (x := t - 3) (by omega), (show (t - 3).toNat < 8 by omega), ?_⟩
    first
      | (exfalso; omega)
      | (refine ⟨congrArg (fun z => some (Sum.inl z)) (show (M.1 2 ((t - 3).toNat) : Int) = stX M E t from ?_), rfl⟩; unfold stX; (repeat first | rw [if_pos (by omega)] | rw [if_neg (by omega)]))
  · refine ⟨1, 0, by first | decide | omega, by first | decide | omega, en_Ct_f (R_within t 3 10 (by omega) (by omega) (by omega) _) c1 ?_⟩
    refine br_eq_y (by decide) (by decide) (by decide) ?_
    refine aw_118_22 ?_
    by_cases c4 : 12 ≤ t ∧ t ≤ 16
    · refine ⟨1, 0, by first | decide | omega, by first | decide | omega, en_Ct_t (R_within t 12 16 (by omega) (by omega) (by omega) _) c4 ?_⟩
      refine br_eq_n (by decide) (by decide) (by decide) ?_
      refine ⟨(t - 12).toNat, it_nn (x := t - 12) (by omega), (show (t - 12).toNat < 5 by omega), ?_⟩
      first
        | (exfalso; omega)
        | (refine ⟨congrArg (fun z => some (Sum.inl z)) (show (M.1 66 ((t - 12).toNat) : Int) = stX M E t from ?_), rfl⟩; unfold stX; (repeat first | rw [if_pos (by omega)] | rw [if_neg (by omega)]))
    · refine ⟨1, 0, by first | decide | omega, by first | decide | omega, en_Ct_f (R_within t 12 16 (by omega) (by omega) (by omega) _) c4 ?_⟩
      refine br_eq_y (by decide) (by decide) (by decide) ?_
      refine aw_118_43 ?_
      refine tb_i (a := t) (by omega) ?_
      refine ⟨fun q7 => ?_, fun q7 => ?_⟩
      · refine aw_118_140 ?_
        first
          | (exfalso; omega)
          | (refine ⟨congrArg (fun z => some (Sum.inl z)) (show (M.1 1 0 : Int) = stX M E t from ?_), rfl⟩; unfold stX; (repeat first | rw [if_pos (by omega)] | rw [if_neg (by omega)]))
      · refine ⟨fun q8 => ?_, fun q8 => ?_⟩
        · refine aw_118_148 ?_
          first
            | (exfalso; omega)
            | (refine ⟨congrArg (fun z => some (Sum.inl z)) (show (M.1 1 1 : Int) = stX M E t from ?_), rfl⟩; unfold stX; (repeat first | rw [if_pos (by omega)] | rw [if_neg (by omega)]))
        · refine ⟨fun q9 => ?_, fun q9 => ?_⟩
          · refine aw_118_156 ?_
            first
              | (exfalso; omega)
              | (refine ⟨congrArg (fun z => some (Sum.inl z)) (show (M.1 1 2 : Int) = stX M E t from ?_), rfl⟩; unfold stX; (repeat first | rw [if_pos (by omega)] | rw [if_neg (by omega)]))
          · refine ⟨fun q10 => ?_, fun q10 => ?_⟩
            · refine aw_118_193 ?_
              first
                | (exfalso; omega)
                | (refine ⟨congrArg (fun z => some (Sum.inl z)) (show ((-1) : Int) = stX M E t from ?_), rfl⟩; unfold stX; (repeat first | rw [if_pos (by omega)] | rw [if_neg (by omega)]))
            · refine ⟨fun q11 => ?_, fun q11 => ?_⟩
              · refine aw_118_193 ?_
                first
                  | (exfalso; omega)
                  | (refine ⟨congrArg (fun z => some (Sum.inl z)) (show ((-1) : Int) = stX M E t from ?_), rfl⟩; unfold stX; (repeat first | rw [if_pos (by omega)] | rw [if_neg (by omega)]))
              · refine ⟨fun q12 => ?_, fun q12 => ?_⟩
                · refine aw_118_193 ?_
                  first
                    | (exfalso; omega)
                    | (refine ⟨congrArg (fun z => some (Sum.inl z)) (show ((-1) : Int) = stX M E t from ?_), rfl⟩; unfold stX; (repeat first | rw [if_pos (by omega)] | rw [if_neg (by omega)]))
                · refine ⟨fun q13 => ?_, fun q13 => ?_⟩
                  · refine aw_118_193 ?_
                    first
                      | (exfalso; omega)
                      | (refine ⟨congrArg (fun z => some (Sum.inl z)) (show ((-1) : Int) = stX M E t from ?_), rfl⟩; unfold stX; (repeat first | rw [if_pos (by omega)] | rw [if_neg (by omega)]))
                  · refine ⟨fun q14 => ?_, fun q14 => ?_⟩
                    · refine aw_118_193 ?_
                      first
                        | (exfalso; omega)
                        | (refine ⟨congrArg (fun z => some (Sum.inl z)) (show ((-1) : Int) = stX M E t from ?_), rfl⟩; unfold stX; (repeat first | rw [if_pos (by omega)] | rw [if_neg (by omega)]))
                    · refine ⟨fun q15 => ?_, fun q15 => ?_⟩
                      · refine aw_118_193 ?_
                        first
                          | (exfalso; omega)
                          | (refine ⟨congrArg (fun z => some (Sum.inl z)) (show ((-1) : Int) = stX M E t from ?_), rfl⟩; unfold stX; (repeat first | rw [if_pos (by omega)] | rw [if_neg (by omega)]))
                      · refine ⟨fun q16 => ?_, fun q16 => ?_⟩
                        · refine aw_118_193 ?_
                          first
                            | (exfalso; omega)
                            | (refine ⟨congrArg (fun z => some (Sum.inl z)) (show ((-1) : Int) = stX M E t from ?_), rfl⟩; unfold stX; (repeat first | rw [if_pos (by omega)] | rw [if_neg (by omega)]))
                        · refine ⟨fun q17 => ?_, fun q17 => ?_⟩
                          · refine aw_118_193 ?_
                            first
                              | (exfalso; omega)
                              | (refine ⟨congrArg (fun z => some (Sum.inl z)) (show ((-1) : Int) = stX M E t from ?_), rfl⟩; unfold stX; (repeat first | rw [if_pos (by omega)] | rw [if_neg (by omega)]))
                          · refine ⟨fun q18 => ?_, fun q18 => ?_⟩
                            · refine aw_118_164 ?_
                              first
                                | (exfalso; omega)
                                | (refine ⟨congrArg (fun z => some (Sum.inl z)) (show (M.1 61 0 : Int) = stX M E t from ?_), rfl⟩; unfold stX; (repeat first | rw [if_pos (by omega)] | rw [if_neg (by omega)]))
                            · refine ⟨fun q19 => ?_, fun q19 => ?_⟩
                              · refine aw_118_193 ?_
                                first
                                  | (exfalso; omega)
                                  | (refine ⟨congrArg (fun z => some (Sum.inl z)) (show ((-1) : Int) = stX M E t from ?_), rfl⟩; unfold stX; (repeat first | rw [if_pos (by omega)] | rw [if_neg (by omega)]))
                              · refine ⟨fun q20 => ?_, fun q20 => ?_⟩
                                · refine aw_118_193 ?_
                                  first
                                    | (exfalso; omega)
                                    | (refine ⟨congrArg (fun z => some (Sum.inl z)) (show ((-1) : Int) = stX M E t from ?_), rfl⟩; unfold stX; (repeat first | rw [if_pos (by omega)] | rw [if_neg (by omega)]))
                                · refine ⟨fun q21 => ?_, fun q21 => ?_⟩
                                  · refine aw_118_193 ?_
                                    first
                                      | (exfalso; omega)
                                      | (refine ⟨congrArg (fun z => some (Sum.inl z)) (show ((-1) : Int) = stX M E t from ?_), rfl⟩; unfold stX; (repeat first | rw [if_pos (by omega)] | rw [if_neg (by omega)]))
                                  · refine ⟨fun q22 => ?_, fun q22 => ?_⟩
                                    · refine aw_118_193 ?_
                                      first
                                        | (exfalso; omega)
                                        | (refine ⟨congrArg (fun z => some (Sum.inl z)) (show ((-1) : Int) = stX M E t from ?_), rfl⟩; unfold stX; (repeat first | rw [if_pos (by omega)] | rw [if_neg (by omega)]))
                                    · refine ⟨fun q23 => ?_, fun q23 => ?_⟩
                                      · refine aw_118_193 ?_
                                        first
                                          | (exfalso; omega)
                                          | (refine ⟨congrArg (fun z => some (Sum.inl z)) (show ((-1) : Int) = stX M E t from ?_), rfl⟩; unfold stX; (repeat first | rw [if_pos (by omega)] | rw [if_neg (by omega)]))
                                      · refine ⟨fun q24 => ?_, fun q24 => ?_⟩
                                        · refine aw_118_172 ?_
                                          first
                                            | (exfalso; omega)
                                            | (refine ⟨congrArg (fun z => some (Sum.inl z)) (show (M.1 1 3 : Int) = stX M E t from ?_), rfl⟩; unfold stX; (repeat first | rw [if_pos (by omega)] | rw [if_neg (by omega)]))
                                        · refine ⟨fun q25 => ?_, fun q25 => ?_⟩
                                          · refine aw_118_180 ?_
                                            refine ⟨3, 0, by first | decide | omega, by first | decide | omega, en_Ct_eq (R_siu M hS) ?_⟩
                                            first
                                              | (exfalso; omega)
                                              | (refine ⟨congrArg (fun z => some (Sum.inl z)) (show (((siM M 8 : Nat) : Int) : Int) = stX M E t from ?_), rfl⟩; unfold stX; (repeat first | rw [if_pos (by omega)] | rw [if_neg (by omega)]))
                                          · refine ⟨fun q26 => ?_, fun q26 => ?_⟩
                                            · refine aw_118_185 ?_
                                              refine ⟨1, 0, by first | decide | omega, by first | decide | omega, en_Ct_eq (X_us (M := M) (E := E) hI hg) ?_⟩
                                              first
                                                | (exfalso; omega)
                                                | (refine ⟨congrArg (fun z => some (Sum.inl z)) (show (((s_us E (E.1 0 1).toNat : Nat) : Int) : Int) = stX M E t from ?_), rfl⟩; unfold stX; (repeat first | rw [if_pos (by omega)] | rw [if_neg (by omega)]))
                                            · refine aw_118_193 ?_
                                              first
                                                | (exfalso; omega)
                                                | (refine ⟨congrArg (fun z => some (Sum.inl z)) (show ((-1) : Int) = stX M E t from ?_), rfl⟩; unfold stX; (repeat first | rw [if_pos (by omega)] | rw [if_neg (by omega)]))
theorem L_siM {post : Option AV → Mm → Prop} (M : Mm) (hA : ∀ k : Nat, k < 8 → 0 ≤ M.1 85 k ∧ M.1 85 k ≤ 2) (t : Int) (hq : post (some (.inl ((siM M 8 : Nat) : Int))) M) : ∀ (n : Nat) (i : Nat), (i + n = 8) → en_AW 9 0 242 post 171 [some (.inr (.inr (1, 6, 84))), some (.inl t), some (.inl ((siM M i : Nat) : Int)), some (.inl ((i : Nat) : Int))] [] M 0 := by
  intro n
  induction n with
  | zero =>
    intro i hi
    refine aw_242_171 ?_
    refine br_ge_y (a := ((i : Nat) : Int)) (b := 8) (by omega) (by omega) (by omega) ?_
    refine aw_242_200 ?_
    rw [show i = 8 by omega]
    exact hq
  | succ n ih =>
    intro i hi
    have hz := hA i (by omega)
    have hb := siM_le (M := M) i
    refine aw_242_171 ?_
    refine br_ge_n (a := ((i : Nat) : Int)) (b := 8) (by omega) (by omega) (by omega) ?_
    refine ⟨i, rfl, (show i < 8 by omega), ?_⟩
    refine br_eq (a := M.1 85 i) (b := 0) (by omega) (by omega) (fun q2 => ?_) (fun q2 => ?_)
    · refine aw_242_191 ?_
      refine aw_242_192 ?_
      refine en_AW_ls (congrArg (fun z_ : Int => ([some (.inr (.inr (1, 6, 84))), some (.inl t), some (.inl z_), some (.inl (((i : Nat) : Int) + 1))] : AL)) (show ((siM M i : Nat) : Int) + 0 = ((siM M (i + 1) : Nat) : Int) from by rw [siM, if_pos (by omega)]; omega)) ?_
      exact ih (i + 1) (by omega)
    · refine aw_242_192 ?_
      refine en_AW_ls (congrArg (fun z_ : Int => ([some (.inr (.inr (1, 6, 84))), some (.inl t), some (.inl z_), some (.inl (((i : Nat) : Int) + 1))] : AL)) (show ((siM M i : Nat) : Int) + 1 = ((siM M (i + 1) : Nat) : Int) from by rw [siM, if_neg (by omega)]; omega)) ?_
      exact ih (i + 1) (by omega)
theorem R_statusM (E : Ev) (M : Mm) (hJ : isM M 84 E) (hg : s_ok E) (hA : ∀ k : Nat, k < 8 → 0 ≤ M.1 85 k ∧ M.1 85 k ≤ 2) (t : Int) (ht : -2147483648 ≤ t ∧ t < 2147483648) : en_Ct 9 0 242 [.inr (.inr (1, 6, 84)), .inl t] M (fun r M' => r = some (.inl (stM M E t)) ∧ M' = M) := by
  obtain ⟨n0, n1, n2, a0, a1, a2, a3, a4, a5, a6, a7⟩ := hg.1
  have r0 : M.1 84 9 = E.1 0 0 := hJ.1.1
  have r1 : M.1 84 10 = E.1 0 1 := hJ.1.2.1
  have r2 : M.1 84 18 = E.1 0 2 := hJ.1.2.2.1
  refine ct_242 rfl ?_
  refine aw_242_0 ?_
  by_cases c1 : 3 ≤ t ∧ t ≤ 10
  · refine ⟨1, 0, by first | decide | omega, by first | decide | omega, en_Ct_t (R_in (en_wr t) 3 10 t 3 10 (wl_wr ⟨by omega, by omega⟩) (wl_of ⟨by omega, by omega⟩) (wl_of ⟨by omega, by omega⟩) _) c1 ?_⟩
    refine br_eq_n (by decide) (by decide) (by decide) ?_
    refine ⟨(t - 3).toNat, it_nn (x := t - 3) (by omega), (show (t - 3).toNat < 8 by omega), ?_⟩
    first
      | (exfalso; omega)
      | (refine ⟨congrArg (fun z => some (Sum.inl z)) (show (M.1 115 ((t - 3).toNat) : Int) = stM M E t from ?_), rfl⟩; unfold stM; (repeat first | rw [if_pos (by omega)] | rw [if_neg (by omega)]))
  · refine ⟨1, 0, by first | decide | omega, by first | decide | omega, en_Ct_f (R_in (en_wr t) 3 10 t 3 10 (wl_wr ⟨by omega, by omega⟩) (wl_of ⟨by omega, by omega⟩) (wl_of ⟨by omega, by omega⟩) _) c1 ?_⟩
    refine br_eq_y (by decide) (by decide) (by decide) ?_
    refine aw_242_23 ?_
    by_cases c4 : 12 ≤ t ∧ t ≤ 16
    · refine ⟨1, 0, by first | decide | omega, by first | decide | omega, en_Ct_t (R_in (en_wr t) 12 16 t 12 16 (wl_wr ⟨by omega, by omega⟩) (wl_of ⟨by omega, by omega⟩) (wl_of ⟨by omega, by omega⟩) _) c4 ?_⟩
      refine br_eq_n (by decide) (by decide) (by decide) ?_
      refine ⟨(t - 10).toNat, it_nn (x := t - 10) (by omega), (show (t - 10).toNat < 8 by omega), ?_⟩
      first
        | (exfalso; omega)
        | (refine ⟨congrArg (fun z => some (Sum.inl z)) (show (M.1 100 ((t - 10).toNat) : Int) = stM M E t from ?_), rfl⟩; unfold stM; (repeat first | rw [if_pos (by omega)] | rw [if_neg (by omega)]))
    · refine ⟨1, 0, by first | decide | omega, by first | decide | omega, en_Ct_f (R_in (en_wr t) 12 16 t 12 16 (wl_wr ⟨by omega, by omega⟩) (wl_of ⟨by omega, by omega⟩) (wl_of ⟨by omega, by omega⟩) _) c4 ?_⟩
      refine br_eq_y (by decide) (by decide) (by decide) ?_
      refine aw_242_47 ?_
      refine tb_i (a := t) (by omega) ?_
      refine ⟨fun q7 => ?_, fun q7 => ?_⟩
      · refine aw_242_144 ?_
        first
          | (exfalso; omega)
          | (refine ⟨congrArg (fun z => some (Sum.inl z)) (show (M.1 84 9 : Int) = stM M E t from ?_), rfl⟩; unfold stM; (repeat first | rw [if_pos (by omega)] | rw [if_neg (by omega)]))
      · refine ⟨fun q8 => ?_, fun q8 => ?_⟩
        · refine aw_242_149 ?_
          first
            | (exfalso; omega)
            | (refine ⟨congrArg (fun z => some (Sum.inl z)) (show (M.1 84 10 : Int) = stM M E t from ?_), rfl⟩; unfold stM; (repeat first | rw [if_pos (by omega)] | rw [if_neg (by omega)]))
        · refine ⟨fun q9 => ?_, fun q9 => ?_⟩
          · refine aw_242_154 ?_
            first
              | (exfalso; omega)
              | (refine ⟨congrArg (fun z => some (Sum.inl z)) (show (M.1 84 18 : Int) = stM M E t from ?_), rfl⟩; unfold stM; (repeat first | rw [if_pos (by omega)] | rw [if_neg (by omega)]))
          · refine ⟨fun q10 => ?_, fun q10 => ?_⟩
            · refine aw_242_207 ?_
              first
                | (exfalso; omega)
                | (refine ⟨congrArg (fun z => some (Sum.inl z)) (show ((-1) : Int) = stM M E t from ?_), rfl⟩; unfold stM; (repeat first | rw [if_pos (by omega)] | rw [if_neg (by omega)]))
            · refine ⟨fun q11 => ?_, fun q11 => ?_⟩
              · refine aw_242_207 ?_
                first
                  | (exfalso; omega)
                  | (refine ⟨congrArg (fun z => some (Sum.inl z)) (show ((-1) : Int) = stM M E t from ?_), rfl⟩; unfold stM; (repeat first | rw [if_pos (by omega)] | rw [if_neg (by omega)]))
              · refine ⟨fun q12 => ?_, fun q12 => ?_⟩
                · refine aw_242_207 ?_
                  first
                    | (exfalso; omega)
                    | (refine ⟨congrArg (fun z => some (Sum.inl z)) (show ((-1) : Int) = stM M E t from ?_), rfl⟩; unfold stM; (repeat first | rw [if_pos (by omega)] | rw [if_neg (by omega)]))
                · refine ⟨fun q13 => ?_, fun q13 => ?_⟩
                  · refine aw_242_207 ?_
                    first
                      | (exfalso; omega)
                      | (refine ⟨congrArg (fun z => some (Sum.inl z)) (show ((-1) : Int) = stM M E t from ?_), rfl⟩; unfold stM; (repeat first | rw [if_pos (by omega)] | rw [if_neg (by omega)]))
                  · refine ⟨fun q14 => ?_, fun q14 => ?_⟩
                    · refine aw_242_207 ?_
                      first
                        | (exfalso; omega)
                        | (refine ⟨congrArg (fun z => some (Sum.inl z)) (show ((-1) : Int) = stM M E t from ?_), rfl⟩; unfold stM; (repeat first | rw [if_pos (by omega)] | rw [if_neg (by omega)]))
                    · refine ⟨fun q15 => ?_, fun q15 => ?_⟩
                      · refine aw_242_207 ?_
                        first
                          | (exfalso; omega)
                          | (refine ⟨congrArg (fun z => some (Sum.inl z)) (show ((-1) : Int) = stM M E t from ?_), rfl⟩; unfold stM; (repeat first | rw [if_pos (by omega)] | rw [if_neg (by omega)]))
                      · refine ⟨fun q16 => ?_, fun q16 => ?_⟩
                        · refine aw_242_207 ?_
                          first
                            | (exfalso; omega)
                            | (refine ⟨congrArg (fun z => some (Sum.inl z)) (show ((-1) : Int) = stM M E t from ?_), rfl⟩; unfold stM; (repeat first | rw [if_pos (by omega)] | rw [if_neg (by omega)]))
                        · refine ⟨fun q17 => ?_, fun q17 => ?_⟩
                          · refine aw_242_207 ?_
                            first
                              | (exfalso; omega)
                              | (refine ⟨congrArg (fun z => some (Sum.inl z)) (show ((-1) : Int) = stM M E t from ?_), rfl⟩; unfold stM; (repeat first | rw [if_pos (by omega)] | rw [if_neg (by omega)]))
                          · refine ⟨fun q18 => ?_, fun q18 => ?_⟩
                            · refine aw_242_159 ?_
                              first
                                | (exfalso; omega)
                                | (refine ⟨congrArg (fun z => some (Sum.inl z)) (show (M.1 84 7 : Int) = stM M E t from ?_), rfl⟩; unfold stM; (repeat first | rw [if_pos (by omega)] | rw [if_neg (by omega)]))
                            · refine ⟨fun q19 => ?_, fun q19 => ?_⟩
                              · refine aw_242_207 ?_
                                first
                                  | (exfalso; omega)
                                  | (refine ⟨congrArg (fun z => some (Sum.inl z)) (show ((-1) : Int) = stM M E t from ?_), rfl⟩; unfold stM; (repeat first | rw [if_pos (by omega)] | rw [if_neg (by omega)]))
                              · refine ⟨fun q20 => ?_, fun q20 => ?_⟩
                                · refine aw_242_207 ?_
                                  first
                                    | (exfalso; omega)
                                    | (refine ⟨congrArg (fun z => some (Sum.inl z)) (show ((-1) : Int) = stM M E t from ?_), rfl⟩; unfold stM; (repeat first | rw [if_pos (by omega)] | rw [if_neg (by omega)]))
                                · refine ⟨fun q21 => ?_, fun q21 => ?_⟩
                                  · refine aw_242_207 ?_
                                    first
                                      | (exfalso; omega)
                                      | (refine ⟨congrArg (fun z => some (Sum.inl z)) (show ((-1) : Int) = stM M E t from ?_), rfl⟩; unfold stM; (repeat first | rw [if_pos (by omega)] | rw [if_neg (by omega)]))
                                  · refine ⟨fun q22 => ?_, fun q22 => ?_⟩
                                    · refine aw_242_207 ?_
                                      first
                                        | (exfalso; omega)
                                        | (refine ⟨congrArg (fun z => some (Sum.inl z)) (show ((-1) : Int) = stM M E t from ?_), rfl⟩; unfold stM; (repeat first | rw [if_pos (by omega)] | rw [if_neg (by omega)]))
                                    · refine ⟨fun q23 => ?_, fun q23 => ?_⟩
                                      · refine aw_242_207 ?_
                                        first
                                          | (exfalso; omega)
                                          | (refine ⟨congrArg (fun z => some (Sum.inl z)) (show ((-1) : Int) = stM M E t from ?_), rfl⟩; unfold stM; (repeat first | rw [if_pos (by omega)] | rw [if_neg (by omega)]))
                                      · refine ⟨fun q24 => ?_, fun q24 => ?_⟩
                                        · refine aw_242_164 ?_
                                          first
                                            | (exfalso; omega)
                                            | (refine ⟨congrArg (fun z => some (Sum.inl z)) (show (M.1 84 23 : Int) = stM M E t from ?_), rfl⟩; unfold stM; (repeat first | rw [if_pos (by omega)] | rw [if_neg (by omega)]))
                                        · refine ⟨fun q25 => ?_, fun q25 => ?_⟩
                                          · refine aw_242_169 ?_
                                            exact L_siM M hA t ⟨congrArg (fun z => some (Sum.inl z)) (show (((siM M 8 : Nat) : Int)) = stM M E t from by unfold stM; repeat first | rw [if_pos (by omega)] | rw [if_neg (by omega)]), rfl⟩ 8 0 (by omega)
                                          · refine ⟨fun q26 => ?_, fun q26 => ?_⟩
                                            · refine aw_242_202 ?_
                                              refine ⟨1, 0, by first | decide | omega, by first | decide | omega, en_Ct_eq (R_usedMany E M hJ hg) ?_⟩
                                              first
                                                | (exfalso; omega)
                                                | (refine ⟨congrArg (fun z => some (Sum.inl z)) (show (((s_us E (E.1 0 1).toNat : Nat) : Int) : Int) = stM M E t from ?_), rfl⟩; unfold stM; (repeat first | rw [if_pos (by omega)] | rw [if_neg (by omega)]))
                                            · refine aw_242_207 ?_
                                              first
                                                | (exfalso; omega)
                                                | (refine ⟨congrArg (fun z => some (Sum.inl z)) (show ((-1) : Int) = stM M E t from ?_), rfl⟩; unfold stM; (repeat first | rw [if_pos (by omega)] | rw [if_neg (by omega)]))
theorem S_status {t : Int} (ht : -2147483648 ≤ t ∧ t < 2147483648) : sameC 118 242 [.inl t] := by
  intro M hc
  have hS := hc.2.2.2.2
  refine ⟨9, by decide, en_Ct_eq (R_statusX (vE M 1) M isE_self hc.1.1 hS t ht) ⟨_, rfl, 9, 0, by decide, Nat.zero_le _, en_Ct_eq (R_statusM (vM M 84) M isM_self (ev_ok hc.1.2 hc.1.1) (fun k hk => sh_Mo hS hk) t ht) ⟨?_, hc, by omega⟩⟩⟩
  refine congrArg (fun z => some (Sum.inl z)) ?_
  unfold stX stM
  have h := hc.1.2
  by_cases h1 : 3 ≤ t ∧ t ≤ 10
  · rw [if_pos h1, if_pos h1]
    exact (h.2.1 (t - 3).toNat (by omega)).symm
  · rw [if_neg h1, if_neg h1]
    by_cases h2 : 12 ≤ t ∧ t ≤ 16
    · rw [if_pos h2, if_pos h2]
      have := hc.2.2.2.1 (t - 12).toNat (by omega)
      rw [show (t - 10).toNat = (t - 12).toNat + 2 by omega]
      exact this.symm
    · rw [if_neg h2, if_neg h2, show M.1 84 9 = M.1 1 0 from (h.1 0 (by decide)).symm, show M.1 84 10 = M.1 1 1 from (h.1 1 (by decide)).symm, show M.1 84 18 = M.1 1 2 from (h.1 2 (by decide)).symm, show M.1 84 23 = M.1 1 3 from (h.1 3 (by decide)).symm, hc.2.2.1.2.1, ← ev_ww h, ev_us h _ (ok_ww hc.1.1)]
