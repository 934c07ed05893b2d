theorem sMk {M : Mm} (h : cS M) {k : Nat} (hk : k < 8) : (M.1 85 k = 0 ∧ M.1 (68 + 2 * k) 0 = -1) ∨ (M.1 85 k = 1 ∧ (0 ≤ M.1 (68 + 2 * k) 0 ∧ M.1 (68 + 2 * k) 0 ≤ 4) ∧ M.1 86 k = M.1 (68 + 2 * k) 0 ∧ (0 ≤ M.1 (68 + 2 * k) 1 ∧ M.1 (68 + 2 * k) 1 ≤ 40) ∧ M.1 87 k = M.1 (68 + 2 * k) 1) ∨ (M.1 85 k = 2 ∧ M.1 (68 + 2 * k) 0 = 10) := by
  rcases h k hk with z | z | z
  · exact Or.inl z
  · exact Or.inr (Or.inl ⟨z.1, z.2.1, z.2.2.1, z.2.2.2.1, z.2.2.2.2.1⟩)
  · exact Or.inr (Or.inr ⟨z.1, z.2.1⟩)
def nRow (M : Mm) (s : Int) : Int := if 0 ≤ s ∧ s ≤ 7 then (if M.1 85 s.toNat = 2 then -3 else if M.1 85 s.toNat = 0 then -4 else 0) else -2
def nRowM (M : Mm) (s : Int) : Mm := if nRow M s = 0 then M else rfM M (-2 - nRow M s).toNat
theorem nRow_c (M : Mm) (s : Int) : (nRow M s = -2 ∧ ¬ (0 ≤ s ∧ s ≤ 7)) ∨ (nRow M s = -3 ∧ (0 ≤ s ∧ s ≤ 7) ∧ M.1 85 s.toNat = 2) ∨ (nRow M s = -4 ∧ (0 ≤ s ∧ s ≤ 7) ∧ M.1 85 s.toNat = 0) ∨ (nRow M s = 0 ∧ (0 ≤ s ∧ s ≤ 7) ∧ M.1 85 s.toNat ≠ 2 ∧ M.1 85 s.toNat ≠ 0) := by
  unfold nRow
  split
  · split
    · exact Or.inr (Or.inl ⟨rfl, ‹_›, ‹_›⟩)
    · split
      · exact Or.inr (Or.inr (Or.inl ⟨rfl, ‹_›, ‹_›⟩))
      · exact Or.inr (Or.inr (Or.inr ⟨rfl, ‹_›, ‹_›, ‹_›⟩))
  · exact Or.inl ⟨rfl, ‹_›⟩
theorem R_noRow (s : Int) (hs : -2147483648 ≤ s ∧ s < 2147483648) (M : Mm) (hA : ∀ k : Nat, k < 8 → 0 ≤ M.1 85 k ∧ M.1 85 k ≤ 2) : en_Ct 2 0 147 [.inr (.inr (1, 6, 84)), .inl s] M (fun r M' => r = some (.inl (nRow M s)) ∧ M' = nRowM M s) := by
  have hB : (0 ≤ s ∧ s ≤ 7) → (0 ≤ M.1 85 s.toNat ∧ M.1 85 s.toNat ≤ 2) := fun z => hA _ (by omega)
  refine ct_147 rfl ?_
  refine aw_147_0 ?_
  by_cases c1 : 0 ≤ s ∧ s ≤ 7
  · refine ⟨1, 0, by first | decide | omega, by first | decide | omega, en_Ct_t (R_in (en_wr s) 0 7 s 0 7 (wl_wr ⟨by omega, by omega⟩) (wl_of ⟨by omega, by omega⟩) (wl_of ⟨by omega, by omega⟩) _) c1 ?_⟩
    refine br_ne_y (by decide) (by decide) (by decide) ?_
    refine aw_147_19 ?_
    refine ⟨s.toNat, it_nn (x := s) (by omega), (show s.toNat < 8 by omega), ?_⟩
    refine br_ne (a := M.1 85 s.toNat) (b := 2) (by omega) (by omega) (fun q3 => ?_) (fun q3 => ?_)
    · refine aw_147_36 ?_
      refine ⟨s.toNat, it_nn (x := s) (by omega), (show s.toNat < 8 by omega), ?_⟩
      refine br_ne (a := M.1 85 s.toNat) (b := 0) (by omega) (by omega) (fun q4 => ?_) (fun q4 => ?_)
      · refine aw_147_54 ?_
        refine aw_147_55 ?_
        have hv : nRow M s = 0 := by
          unfold nRow
          repeat first | rw [if_pos (by omega)] | rw [if_neg (by omega)]
        refine ⟨congrArg (fun z => some (Sum.inl z)) hv.symm, ?_⟩
        unfold nRowM
        rw [hv]
        rw [if_pos rfl]
      · refine ⟨1, 0, by first | decide | omega, by first | decide | omega, en_Ct_eq (R_refM (-4) (by omega) M) ?_⟩
        refine aw_147_55 ?_
        have hv : nRow M s = (-4) := by
          unfold nRow
          repeat first | rw [if_pos (by omega)] | rw [if_neg (by omega)]
        refine ⟨congrArg (fun z => some (Sum.inl z)) hv.symm, ?_⟩
        unfold nRowM
        rw [hv]
        rw [if_neg (by decide)]
    · refine ⟨1, 0, by first | decide | omega, by first | decide | omega, en_Ct_eq (R_refM (-3) (by omega) M) ?_⟩
      have hv : nRow M s = (-3) := by
        unfold nRow
        repeat first | rw [if_pos (by omega)] | rw [if_neg (by omega)]
      refine ⟨congrArg (fun z => some (Sum.inl z)) hv.symm, ?_⟩
      unfold nRowM
      rw [hv]
      rw [if_neg (by decide)]
  · refine ⟨1, 0, by first | decide | omega, by first | decide | omega, en_Ct_f (R_in (en_wr s) 0 7 s 0 7 (wl_wr ⟨by omega, by omega⟩) (wl_of ⟨by omega, by omega⟩) (wl_of ⟨by omega, by omega⟩) _) c1 ?_⟩
    refine br_ne_n (by decide) (by decide) (by decide) ?_
    refine ⟨1, 0, by first | decide | omega, by first | decide | omega, en_Ct_eq (R_refM (-2) (by omega) M) ?_⟩
    have hv : nRow M s = (-2) := by
      unfold nRow
      repeat first | rw [if_pos (by omega)] | rw [if_neg (by omega)]
    refine ⟨congrArg (fun z => some (Sum.inl z)) hv.symm, ?_⟩
    unfold nRowM
    rw [hv]
    rw [if_neg (by decide)]
theorem R_noRowv {s v : Int} (hs : -2147483648 ≤ s ∧ s < 2147483648) {M : Mm} (hA : ∀ k : Nat, k < 8 → 0 ≤ M.1 85 k ∧ M.1 85 k ≤ 2) (h : nRow M s = v) : en_Ct 2 0 147 [.inr (.inr (1, 6, 84)), .inl s] M (fun r M' => r = some (.inl v) ∧ M' = if v = 0 then M else rfM M (-2 - v).toNat) := by
  have := R_noRow s hs M hA
  unfold nRowM at this
  rw [h] at this
  exact this
