theorem sh_X {M : Mm} (h : cS M) {k : Nat} (hk : k < 8) : (-1 ≤ M.1 (68 + 2 * k) 0 ∧ M.1 (68 + 2 * k) 0 ≤ 10) := by
  rcases h k hk with z | z | z
  · omega
  · have := z.2.1
    omega
  · have := z.2.1
    omega
theorem sh_Mo {M : Mm} (h : cS M) {k : Nat} (hk : k < 8) : (0 ≤ M.1 85 k ∧ M.1 85 k ≤ 2) := by
  rcases h k hk with z | z | z
  · omega
  · have := z.1
    omega
  · have := z.1
    omega
theorem R_holdsX (s : Int) (hs : -2147483648 ≤ s ∧ s < 2147483648) (M : Mm) (hS : ∀ k : Nat, k < 8 → (-1 ≤ M.1 (68 + 2 * k) 0 ∧ M.1 (68 + 2 * k) 0 ≤ 10)) : en_Ct 9 0 72 [.inr (.inr (1, 5, 0)), .inl s] M (fun r M' => r = some (.inl (if 0 ≤ s ∧ s ≤ 7 then (if M.1 (68 + 2 * s.toNat) 0 = 10 then 10 + M.1 (68 + 2 * s.toNat) 2 else M.1 (68 + 2 * s.toNat) 0) else -1)) ∧ M' = M) := by
  have hA : (0 ≤ s ∧ s ≤ 7) → (-1 ≤ M.1 (68 + 2 * s.toNat) 0 ∧ M.1 (68 + 2 * s.toNat) 0 ≤ 10) := fun z => hS _ (by omega)
  refine ct_72 rfl ?_
  refine aw_72_0 ?_
  by_cases c1 : 0 ≤ s ∧ s ≤ 7
  · refine ⟨2, 0, by first | decide | omega, by first | decide | omega, en_Ct_t (R_isShelf s (by omega) _) c1 ?_⟩
    refine br_ne_y (by decide) (by decide) (by decide) ?_
    refine aw_72_9 ?_
    refine ⟨s.toNat, it_nn (x := s) (by omega), (show s.toNat < 8 by omega), ?_⟩
    by_cases c3 : M.1 (68 + 2 * s.toNat) 0 = 10
    · refine ⟨1, 0, by first | decide | omega, by first | decide | omega, en_Ct_t (R_hasWord (68 + 2 * s.toNat) M (by omega)) c3 ?_⟩
      refine br_eq_n (by decide) (by decide) (by decide) ?_
      refine aw_72_37 ?_
      refine ⟨congrArg (fun z => some (Sum.inl z)) (show 10 + (M.1 (68 + 2 * s.toNat) 2) = if 0 ≤ s ∧ s ≤ 7 then (if M.1 (68 + 2 * s.toNat) 0 = 10 then 10 + M.1 (68 + 2 * s.toNat) 2 else M.1 (68 + 2 * s.toNat) 0) else -1 from ?_), rfl⟩
      repeat first | rw [if_pos (by omega)] | rw [if_neg (by omega)]
    · refine ⟨1, 0, by first | decide | omega, by first | decide | omega, en_Ct_f (R_hasWord (68 + 2 * s.toNat) M (by omega)) c3 ?_⟩
      refine br_eq_y (by decide) (by decide) (by decide) ?_
      refine aw_72_33 ?_
      refine aw_72_37 ?_
      refine ⟨congrArg (fun z => some (Sum.inl z)) (show M.1 (68 + 2 * s.toNat) 0 = if 0 ≤ s ∧ s ≤ 7 then (if M.1 (68 + 2 * s.toNat) 0 = 10 then 10 + M.1 (68 + 2 * s.toNat) 2 else M.1 (68 + 2 * s.toNat) 0) else -1 from ?_), rfl⟩
      repeat first | rw [if_pos (by omega)] | rw [if_neg (by omega)]
  · refine ⟨2, 0, by first | decide | omega, by first | decide | omega, en_Ct_f (R_isShelf s (by omega) _) c1 ?_⟩
    refine br_ne_n (by decide) (by decide) (by decide) ?_
    refine ⟨congrArg (fun z => some (Sum.inl z)) (show (-1) = if 0 ≤ s ∧ s ≤ 7 then (if M.1 (68 + 2 * s.toNat) 0 = 10 then 10 + M.1 (68 + 2 * s.toNat) 2 else M.1 (68 + 2 * s.toNat) 0) else -1 from ?_), rfl⟩
    repeat first | rw [if_pos (by omega)] | rw [if_neg (by omega)]
theorem R_holdsM (s : Int) (hs : -2147483648 ≤ s ∧ s < 2147483648) (M : Mm) (hS : ∀ k : Nat, k < 8 → (0 ≤ M.1 85 k ∧ M.1 85 k ≤ 2)) : en_Ct 9 0 151 [.inr (.inr (1, 6, 84)), .inl s] M (fun r M' => r = some (.inl (if (0 ≤ s ∧ s ≤ 7) ∧ M.1 85 s.toNat ≠ 0 then (if M.1 85 s.toNat = 1 then M.1 86 s.toNat else 10 + M.1 98 s.toNat) else -1)) ∧ M' = M) := by
  have hA : (0 ≤ s ∧ s ≤ 7) → (0 ≤ M.1 85 s.toNat ∧ M.1 85 s.toNat ≤ 2) := fun z => hS _ (by omega)
  refine ct_151 rfl ?_
  refine aw_151_0 ?_
  by_cases c1 : 0 ≤ s ∧ s ≤ 7
  · refine ⟨1, 0, by first | decide | omega, by first | decide | omega, en_Ct_t (R_in (en_wr s) 0 7 s 0 7 (wl_wr ⟨by omega, by omega⟩) (wl_of ⟨by omega, by omega⟩) (wl_of ⟨by omega, by omega⟩) _) c1 ?_⟩
    refine br_eq_n (by decide) (by decide) (by decide) ?_
    refine ⟨s.toNat, it_nn (x := s) (by omega), (show s.toNat < 8 by omega), ?_⟩
    refine br_ne (a := M.1 85 s.toNat) (b := 0) (by omega) (by omega) (fun q3 => ?_) (fun q3 => ?_)
    · refine aw_151_23 ?_
      refine ⟨s.toNat, it_nn (x := s) (by omega), (show s.toNat < 8 by omega), ?_⟩
      refine br_ne (a := M.1 85 s.toNat) (b := 1) (by omega) (by omega) (fun q4 => ?_) (fun q4 => ?_)
      · refine aw_151_42 ?_
        refine ⟨s.toNat, it_nn (x := s) (by omega), (show s.toNat < 8 by omega), ?_⟩
        refine aw_151_51 ?_
        refine ⟨congrArg (fun z => some (Sum.inl z)) (show 10 + (M.1 98 s.toNat) = if (0 ≤ s ∧ s ≤ 7) ∧ M.1 85 s.toNat ≠ 0 then (if M.1 85 s.toNat = 1 then M.1 86 s.toNat else 10 + M.1 98 s.toNat) else -1 from ?_), rfl⟩
        repeat first | rw [if_pos (by omega)] | rw [if_neg (by omega)]
      · refine ⟨s.toNat, it_nn (x := s) (by omega), (show s.toNat < 8 by omega), ?_⟩
        refine aw_151_51 ?_
        refine ⟨congrArg (fun z => some (Sum.inl z)) (show M.1 86 s.toNat = if (0 ≤ s ∧ s ≤ 7) ∧ M.1 85 s.toNat ≠ 0 then (if M.1 85 s.toNat = 1 then M.1 86 s.toNat else 10 + M.1 98 s.toNat) else -1 from ?_), rfl⟩
        repeat first | rw [if_pos (by omega)] | rw [if_neg (by omega)]
    · refine aw_151_21 ?_
      refine ⟨congrArg (fun z => some (Sum.inl z)) (show (-1) = if (0 ≤ s ∧ s ≤ 7) ∧ M.1 85 s.toNat ≠ 0 then (if M.1 85 s.toNat = 1 then M.1 86 s.toNat else 10 + M.1 98 s.toNat) else -1 from ?_), rfl⟩
      repeat first | rw [if_pos (by omega)] | rw [if_neg (by omega)]
  · refine ⟨1, 0, by first | decide | omega, by first | decide | omega, en_Ct_f (R_in (en_wr s) 0 7 s 0 7 (wl_wr ⟨by omega, by omega⟩) (wl_of ⟨by omega, by omega⟩) (wl_of ⟨by omega, by omega⟩) _) c1 ?_⟩
    refine br_eq_y (by decide) (by decide) (by decide) ?_
    refine aw_151_21 ?_
    refine ⟨congrArg (fun z => some (Sum.inl z)) (show (-1) = if (0 ≤ s ∧ s ≤ 7) ∧ M.1 85 s.toNat ≠ 0 then (if M.1 85 s.toNat = 1 then M.1 86 s.toNat else 10 + M.1 98 s.toNat) else -1 from ?_), rfl⟩
    repeat first | rw [if_pos (by omega)] | rw [if_neg (by omega)]
theorem S_holds {s : Int} (hs : -2147483648 ≤ s ∧ s < 2147483648) : sameC 72 151 [.inl s] := by
  intro M hc
  refine ⟨9, by decide, en_Ct_eq (R_holdsX s hs M (fun k hk => sh_X hc.2.2.2.2 hk)) ⟨_, rfl, 9, 0, by decide, Nat.zero_le _, en_Ct_eq (R_holdsM s hs M (fun k hk => sh_Mo hc.2.2.2.2 hk)) ⟨?_, hc, by omega⟩⟩⟩
  refine congrArg (fun z => some (Sum.inl z)) ?_
  by_cases h : 0 ≤ s ∧ s ≤ 7
  · rw [if_pos h]
    rcases hc.2.2.2.2 s.toNat (by omega) with z | z | z
    · rw [if_neg (by omega), if_neg (by omega), z.2]
    · obtain ⟨z1, z2, z3, -⟩ := z
      rw [if_pos ⟨h, by omega⟩, if_pos z1, if_neg (by omega), z3]
    · obtain ⟨z1, z2, z3, -⟩ := z
      rw [if_pos ⟨h, by omega⟩, if_neg (by omega), if_pos z2, z3]
  · rw [if_neg h, if_neg (by omega)]
