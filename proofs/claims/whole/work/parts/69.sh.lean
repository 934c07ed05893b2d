theorem R_hasRow (A : Nat) (M : Mm) (hA : -1 ≤ M.1 A 0 ∧ M.1 A 0 ≤ 10) : en_Ct 2 0 60 [.inr (.inr (1, 4, A))] M (fun r M' => r = some (.inl (if 0 ≤ M.1 A 0 ∧ M.1 A 0 ≤ 4 then 1 else 0)) ∧ M' = M) := by
  refine ct_60 rfl ?_
  refine aw_60_0 ?_
  by_cases c1 : 0 ≤ (M.1 A 0) ∧ (M.1 A 0) ≤ 4
  · refine ⟨1, 0, by first | decide | omega, by first | decide | omega, en_Ct_t (R_within (M.1 A 0) 0 4 (by omega) (by omega) (by omega) _) c1 ?_⟩
    exact ⟨Or.inr rfl, by rw [if_pos (by omega)], rfl⟩
  · refine ⟨1, 0, by first | decide | omega, by first | decide | omega, en_Ct_f (R_within (M.1 A 0) 0 4 (by omega) (by omega) (by omega) _) c1 ?_⟩
    exact ⟨Or.inl rfl, by rw [if_neg (by omega)], rfl⟩
theorem R_hasWord (A : Nat) (M : Mm) (hA : -1 ≤ M.1 A 0 ∧ M.1 A 0 ≤ 10) : en_Ct 1 0 61 [.inr (.inr (1, 4, A))] M (fun r M' => r = some (.inl (if M.1 A 0 = 10 then 1 else 0)) ∧ M' = M) := by
  refine ct_61 rfl ?_
  refine aw_61_0 ?_
  refine br_ne (a := M.1 A 0) (b := 10) (by omega) (by omega) (fun q1 => ?_) (fun q1 => ?_)
  · refine aw_61_13 ?_
    refine aw_61_14 ?_
    exact ⟨Or.inl rfl, by rw [if_neg (by omega)], rfl⟩
  · refine aw_61_14 ?_
    exact ⟨Or.inr rfl, by rw [if_pos (by omega)], rfl⟩
def clS (M : Mm) (A : Nat) : Mm := en_wI (en_wI (en_wI M A 0 (-1)) A 1 0) A 2 (-1)
def bwS (M : Mm) (A : Nat) (w : Int) : Mm := en_wI (en_wI (clS M A) A 0 10) A 2 w
theorem R_clear (A : Nat) (M : Mm) : en_Ct 1 0 62 [.inr (.inr (1, 4, A))] M (fun r M' => r = none ∧ M' = clS M A) := by
  refine ct_62 rfl ?_
  refine aw_62_0 ?_
  exact ⟨rfl, rfl⟩
theorem R_becomeWord (A : Nat) (w : Int) (M : Mm) : en_Ct 2 0 63 [.inr (.inr (1, 4, A)), .inl w] M (fun r M' => r = none ∧ M' = bwS M A w) := by
  refine ct_63 rfl ?_
  refine aw_63_0 ?_
  refine ⟨1, 0, by first | decide | omega, by first | decide | omega, en_Ct_eq (R_clear A M) ?_⟩
  exact ⟨rfl, rfl⟩
