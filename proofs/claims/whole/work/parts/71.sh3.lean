theorem sh_X2 {M : Mm} (h : cS M) {k : Nat} (hk : k < 8) (h0 : 0 ≤ M.1 (68 + 2 * k) 0 ∧ M.1 (68 + 2 * k) 0 ≤ 4) : (0 ≤ M.1 (68 + 2 * k) 1 ∧ M.1 (68 + 2 * k) 1 ≤ 40) := by
  rcases h k hk with z | z | z
  · omega
  · exact z.2.2.2.1
  · have := z.2.1
    omega
theorem sh_M2 {M : Mm} (h : cS M) {k : Nat} (hk : k < 8) (h0 : M.1 85 k = 1) : (0 ≤ M.1 87 k ∧ M.1 87 k ≤ 40) ∧ (0 ≤ M.1 86 k ∧ M.1 86 k ≤ 4) := by
  rcases h k hk with z | z | z
  · omega
  · obtain ⟨z1, z2, z3, z4, z5, -⟩ := z
    omega
  · have := z.1
    omega
theorem R_elementX (s : Int) (hs : -2147483648 ≤ s ∧ s < 2147483648) (i : Int) (hi : -2147483648 ≤ i ∧ i < 2147483648) (M : Mm) (hc : cpl M) : en_Ct 9 0 71 [.inr (.inr (1, 5, 0)), .inl s, .inl i] M (fun r M' => r = some (.inr (.inl (if (0 ≤ s ∧ s ≤ 7) ∧ (0 ≤ M.1 (68 + 2 * s.toNat) 0 ∧ M.1 (68 + 2 * s.toNat) 0 ≤ 4) ∧ 0 ≤ i ∧ i < M.1 (68 + 2 * s.toNat) 1 then M.2 (68 + 2 * s.toNat + 1) i.toNat else 0))) ∧ M' = M) := by
  have hS := hc.2.2.2.2
  have hA : (0 ≤ s ∧ s ≤ 7) → (-1 ≤ M.1 (68 + 2 * s.toNat) 0 ∧ M.1 (68 + 2 * s.toNat) 0 ≤ 10) := fun z => sh_X hS (by omega)
  have hA2 : (0 ≤ s ∧ s ≤ 7) → (0 ≤ M.1 (68 + 2 * s.toNat) 0 ∧ M.1 (68 + 2 * s.toNat) 0 ≤ 4) → (0 ≤ M.1 (68 + 2 * s.toNat) 1 ∧ M.1 (68 + 2 * s.toNat) 1 ≤ 40) := fun z z2 => sh_X2 hS (by omega) z2
  refine ct_71 rfl ?_
  refine aw_71_0 ?_
  by_cases c1 : 0 ≤ s ∧ s ≤ 7
  · refine ⟨2, 0, by first | decide | omega, by first | decide | omega, en_Ct_t (R_isShelf s (by omega) _) c1 ?_⟩
    refine br_eq_n (by decide) (by decide) (by decide) ?_
    refine ⟨s.toNat, it_nn (x := s) (by omega), (show s.toNat < 8 by omega), ?_⟩
    by_cases c3 : 0 ≤ M.1 (68 + 2 * s.toNat) 0 ∧ M.1 (68 + 2 * s.toNat) 0 ≤ 4
    · refine ⟨2, 0, by first | decide | omega, by first | decide | omega, en_Ct_t (R_hasRow (68 + 2 * s.toNat) M (by omega)) c3 ?_⟩
      refine br_eq_n (by decide) (by decide) (by decide) ?_
      refine ⟨s.toNat, it_nn (x := s) (by omega), (show s.toNat < 8 by omega), ?_⟩
      by_cases c5 : 0 ≤ i ∧ i ≤ ((M.1 (68 + 2 * s.toNat) 1) - 1)
      · refine ⟨1, 0, by first | decide | omega, by first | decide | omega, en_Ct_t (R_within i 0 ((M.1 (68 + 2 * s.toNat) 1) - 1) (by omega) (by omega) (by omega) _) c5 ?_⟩
        refine br_ne_y (by decide) (by decide) (by decide) ?_
        refine aw_71_40 ?_
        refine ⟨s.toNat, it_nn (x := s) (by omega), (show s.toNat < 8 by omega), ?_⟩
        refine ⟨i.toNat, it_nn (x := i) (by omega), (show i.toNat < 40 by omega), ?_⟩
        refine ⟨congrArg (fun z => some (Sum.inr (Sum.inl z))) (show (M.2 (68 + 2 * s.toNat + 1) i.toNat : Int) = if (0 ≤ s ∧ s ≤ 7) ∧ (0 ≤ M.1 (68 + 2 * s.toNat) 0 ∧ M.1 (68 + 2 * s.toNat) 0 ≤ 4) ∧ 0 ≤ i ∧ i < M.1 (68 + 2 * s.toNat) 1 then M.2 (68 + 2 * s.toNat + 1) i.toNat else 0 from ?_), rfl⟩
        repeat first | rw [if_pos (by omega)] | rw [if_neg (by omega)]
      · refine ⟨1, 0, by first | decide | omega, by first | decide | omega, en_Ct_f (R_within i 0 ((M.1 (68 + 2 * s.toNat) 1) - 1) (by omega) (by omega) (by omega) _) c5 ?_⟩
        refine br_ne_n (by decide) (by decide) (by decide) ?_
        refine aw_71_38 ?_
        refine ⟨congrArg (fun z => some (Sum.inr (Sum.inl z))) (show (0 : Int) = if (0 ≤ s ∧ s ≤ 7) ∧ (0 ≤ M.1 (68 + 2 * s.toNat) 0 ∧ M.1 (68 + 2 * s.toNat) 0 ≤ 4) ∧ 0 ≤ i ∧ i < M.1 (68 + 2 * s.toNat) 1 then M.2 (68 + 2 * s.toNat + 1) i.toNat else 0 from ?_), rfl⟩
        repeat first | rw [if_pos (by omega)] | rw [if_neg (by omega)]
    · refine ⟨2, 0, by first | decide | omega, by first | decide | omega, en_Ct_f (R_hasRow (68 + 2 * s.toNat) M (by omega)) c3 ?_⟩
      refine br_eq_y (by decide) (by decide) (by decide) ?_
      refine aw_71_38 ?_
      refine ⟨congrArg (fun z => some (Sum.inr (Sum.inl z))) (show (0 : Int) = if (0 ≤ s ∧ s ≤ 7) ∧ (0 ≤ M.1 (68 + 2 * s.toNat) 0 ∧ M.1 (68 + 2 * s.toNat) 0 ≤ 4) ∧ 0 ≤ i ∧ i < M.1 (68 + 2 * s.toNat) 1 then M.2 (68 + 2 * s.toNat + 1) i.toNat else 0 from ?_), rfl⟩
      repeat first | rw [if_pos (by omega)] | rw [if_neg (by omega)]
  · refine ⟨2, 0, by first | decide | omega, by first | decide | omega, en_Ct_f (R_isShelf s (by omega) _) c1 ?_⟩
    refine br_eq_y (by decide) (by decide) (by decide) ?_
    refine aw_71_38 ?_
    refine ⟨congrArg (fun z => some (Sum.inr (Sum.inl z))) (show (0 : Int) = if (0 ≤ s ∧ s ≤ 7) ∧ (0 ≤ M.1 (68 + 2 * s.toNat) 0 ∧ M.1 (68 + 2 * s.toNat) 0 ≤ 4) ∧ 0 ≤ i ∧ i < M.1 (68 + 2 * s.toNat) 1 then M.2 (68 + 2 * s.toNat + 1) i.toNat else 0 from ?_), rfl⟩
    repeat first | rw [if_pos (by omega)] | rw [if_neg (by omega)]
theorem R_elementM (s : Int) (hs : -2147483648 ≤ s ∧ s < 2147483648) (i : Int) (hi : -2147483648 ≤ i ∧ i < 2147483648) (M : Mm) (hc : cpl M) : en_Ct 9 0 150 [.inr (.inr (1, 6, 84)), .inl s, .inl i] M (fun r M' => r = some (.inr (.inl (if (0 ≤ s ∧ s ≤ 7) ∧ M.1 85 s.toNat = 1 ∧ 0 ≤ i ∧ i < M.1 87 s.toNat then M.2 (89 + 1 * s.toNat) i.toNat else 0))) ∧ M' = M) := by
  have hS := hc.2.2.2.2
  have hA : (0 ≤ s ∧ s ≤ 7) → (0 ≤ M.1 85 s.toNat ∧ M.1 85 s.toNat ≤ 2) := fun z => sh_Mo hS (by omega)
  have hA2 : (0 ≤ s ∧ s ≤ 7) → M.1 85 s.toNat = 1 → (0 ≤ M.1 87 s.toNat ∧ M.1 87 s.toNat ≤ 40) ∧ (0 ≤ M.1 86 s.toNat ∧ M.1 86 s.toNat ≤ 4) := fun z z2 => sh_M2 hS (by omega) z2
  refine ct_150 rfl ?_
  refine aw_150_0 ?_
  by_cases c1 : 0 ≤ s ∧ s ≤ 7
  · refine ⟨1, 0, by first | decide | omega, by first | decide | omega, en_Ct_t (R_in (en_wr s) 0 7 s 0 7 (wl_wr ⟨by omega, by omega⟩) (wl_of ⟨by omega, by omega⟩) (wl_of ⟨by omega, by omega⟩) _) c1 ?_⟩
    refine br_eq_n (by decide) (by decide) (by decide) ?_
    refine ⟨s.toNat, it_nn (x := s) (by omega), (show s.toNat < 8 by omega), ?_⟩
    refine br_ne (a := M.1 85 s.toNat) (b := 1) (by omega) (by omega) (fun q3 => ?_) (fun q3 => ?_)
    · refine aw_150_51 ?_
      refine aw_150_52 ?_
      refine ⟨congrArg (fun z => some (Sum.inr (Sum.inl z))) (show (0 : Int) = if (0 ≤ s ∧ s ≤ 7) ∧ M.1 85 s.toNat = 1 ∧ 0 ≤ i ∧ i < M.1 87 s.toNat then M.2 (89 + 1 * s.toNat) i.toNat else 0 from ?_), rfl⟩
      repeat first | rw [if_pos (by omega)] | rw [if_neg (by omega)]
    · refine ⟨s.toNat, it_nn (x := s) (by omega), (show s.toNat < 8 by omega), ?_⟩
      by_cases c4 : 0 ≤ i ∧ i ≤ ((M.1 87 s.toNat) - 1)
      · refine ⟨1, 0, by first | decide | omega, by first | decide | omega, en_Ct_t (R_in (en_wr i) 0 (en_wr ((M.1 87 s.toNat) - 1)) i 0 ((M.1 87 s.toNat) - 1) (wl_wr ⟨by omega, by omega⟩) (wl_of ⟨by omega, by omega⟩) (wl_wr ⟨by omega, by omega⟩) _) c4 ?_⟩
        refine br_eq_n (by decide) (by decide) (by decide) ?_
        refine ⟨s.toNat, it_nn (x := s) (by omega), (show s.toNat < 8 by omega), ?_⟩
        refine ⟨i.toNat, it_nn (x := i) (by omega), (show i.toNat < 40 by omega), ?_⟩
        refine aw_150_52 ?_
        refine ⟨congrArg (fun z => some (Sum.inr (Sum.inl z))) (show (M.2 (89 + 1 * s.toNat) i.toNat : Int) = if (0 ≤ s ∧ s ≤ 7) ∧ M.1 85 s.toNat = 1 ∧ 0 ≤ i ∧ i < M.1 87 s.toNat then M.2 (89 + 1 * s.toNat) i.toNat else 0 from ?_), rfl⟩
        repeat first | rw [if_pos (by omega)] | rw [if_neg (by omega)]
      · refine ⟨1, 0, by first | decide | omega, by first | decide | omega, en_Ct_f (R_in (en_wr i) 0 (en_wr ((M.1 87 s.toNat) - 1)) i 0 ((M.1 87 s.toNat) - 1) (wl_wr ⟨by omega, by omega⟩) (wl_of ⟨by omega, by omega⟩) (wl_wr ⟨by omega, by omega⟩) _) c4 ?_⟩
        refine br_eq_y (by decide) (by decide) (by decide) ?_
        refine aw_150_51 ?_
        refine aw_150_52 ?_
        refine ⟨congrArg (fun z => some (Sum.inr (Sum.inl z))) (show (0 : Int) = if (0 ≤ s ∧ s ≤ 7) ∧ M.1 85 s.toNat = 1 ∧ 0 ≤ i ∧ i < M.1 87 s.toNat then M.2 (89 + 1 * s.toNat) i.toNat else 0 from ?_), rfl⟩
        repeat first | rw [if_pos (by omega)] | rw [if_neg (by omega)]
  · refine ⟨1, 0, by first | decide | omega, by first | decide | omega, en_Ct_f (R_in (en_wr s) 0 7 s 0 7 (wl_wr ⟨by omega, by omega⟩) (wl_of ⟨by omega, by omega⟩) (wl_of ⟨by omega, by omega⟩) _) c1 ?_⟩
    refine br_eq_y (by decide) (by decide) (by decide) ?_
    refine aw_150_51 ?_
    refine aw_150_52 ?_
    refine ⟨congrArg (fun z => some (Sum.inr (Sum.inl z))) (show (0 : Int) = if (0 ≤ s ∧ s ≤ 7) ∧ M.1 85 s.toNat = 1 ∧ 0 ≤ i ∧ i < M.1 87 s.toNat then M.2 (89 + 1 * s.toNat) i.toNat else 0 from ?_), rfl⟩
    repeat first | rw [if_pos (by omega)] | rw [if_neg (by omega)]
theorem S_element {s : Int} (hs : -2147483648 ≤ s ∧ s < 2147483648) {i : Int} (hi : -2147483648 ≤ i ∧ i < 2147483648) : sameL 71 150 [.inl s, .inl i] := by
  intro M hc
  refine ⟨9, by decide, en_Ct_eq (R_elementX s hs i hi M hc) ⟨_, rfl, 9, 0, by decide, Nat.zero_le _, en_Ct_eq (R_elementM s hs i hi M hc) ⟨?_, hc, by omega⟩⟩⟩
  refine congrArg (fun z => some (Sum.inr (Sum.inl z))) ?_
  by_cases h : 0 ≤ s ∧ s ≤ 7
  · rcases hc.2.2.2.2 s.toNat (by omega) with z | z | z
    · rw [if_neg (by omega), if_neg (by omega)]
    · obtain ⟨z1, z2, z3, z4, z5, z6⟩ := z
      by_cases hh : 0 ≤ i ∧ i < M.1 (68 + 2 * s.toNat) 1
      · rw [if_pos ⟨h, z1, by omega⟩, if_pos ⟨h, z2, hh⟩]
        exact (z6 i.toNat (by omega)).1.symm
      · rw [if_neg (by omega), if_neg (by omega)]
    · obtain ⟨z1, z2, z3, -⟩ := z
      rw [if_neg (by omega), if_neg (by omega)]
  · rw [if_neg (by omega), if_neg (by omega)]
