def a_set (M : Mm) (s i : Int) : Nat × Int := if 0 ≤ s ∧ s ≤ 7 then (if M.1 (68 + 2 * s.toNat) 0 = 10 then (2, -3) else if 0 ≤ M.1 (68 + 2 * s.toNat) 0 ∧ M.1 (68 + 2 * s.toNat) 0 ≤ 4 then (if 0 ≤ i ∧ i < M.1 (68 + 2 * s.toNat) 1 then (0, 1) else (1, -2)) else (3, -4)) else (1, -2)
def a_setM (M : Mm) (s i : Int) : Nat × Int := if 0 ≤ s ∧ s ≤ 7 then (if M.1 85 s.toNat = 2 then (2, -3) else if M.1 85 s.toNat = 0 then (3, -4) else if 0 ≤ i ∧ i < M.1 87 s.toNat then (0, 1) else (1, -2)) else (1, -2)
theorem R_setX (s i v : Int) (hs : -2147483648 ≤ s ∧ s < 2147483648) (hi : -2147483648 ≤ i ∧ i < 2147483648) (hv : -9223372036854775808 ≤ v ∧ v < 9223372036854775808) (M : Mm) (hS : cS M) : en_Ct 9 0 69 [.inr (.inr (1, 5, 0)), .inl s, .inl i, .inr (.inl v)] M (fun r M' => r = some (.inl (a_set M s i).2) ∧ (((a_set M s i).1 ≠ 0 ∧ M' = aX M (a_set M s i).1) ∨ ((a_set M s i).1 = 0 ∧ M' = en_wL M (68 + 2 * s.toNat + 1) i.toNat (lowb (M.1 (68 + 2 * s.toNat) 0) v)))) := by
  have hA : (0 ≤ s ∧ s ≤ 7) → (-1 ≤ M.1 (68 + 2 * s.toNat) 0 ∧ M.1 (68 + 2 * s.toNat) 0 ≤ 10) := fun z => sh_X hS (by omega)
  have hA2 : (0 ≤ s ∧ s ≤ 7) → (0 ≤ M.1 (68 + 2 * s.toNat) 0 ∧ M.1 (68 + 2 * s.toNat) 0 ≤ 4) → (0 ≤ M.1 (68 + 2 * s.toNat) 1 ∧ M.1 (68 + 2 * s.toNat) 1 ≤ 40) := fun z z2 => sh_X2 hS (by omega) z2
  refine ct_69 rfl ?_
  refine aw_69_0 ?_
  rcases tRow_c M s with ⟨tv, t1⟩ | ⟨tv, t1, t2⟩ | ⟨tv, t1, t2, t3⟩ | ⟨tv, t1, t2⟩
  · refine ⟨3, 0, by first | decide | omega, by first | decide | omega, en_Ct_eq (R_tRowv (by omega) hS tv) ?_⟩
    refine br_eq_n (by decide) (by decide) (by decide) ?_
    refine ⟨2, 0, by first | decide | omega, by first | decide | omega, en_Ct_eq (R_refX (-2) (by omega) M) ?_⟩
    have ha : a_set M s i = (1, (-2)) := by
      unfold a_set
      repeat first | rw [if_pos (by omega)] | rw [if_neg (by omega)]
    rw [ha]
    exact ⟨rfl, Or.inl ⟨by decide, rfl⟩⟩
  · refine ⟨3, 0, by first | decide | omega, by first | decide | omega, en_Ct_eq (R_tRowv (by omega) hS tv) ?_⟩
    refine br_eq_n (by decide) (by decide) (by decide) ?_
    refine ⟨2, 0, by first | decide | omega, by first | decide | omega, en_Ct_eq (R_refX (-3) (by omega) M) ?_⟩
    have ha : a_set M s i = (2, (-3)) := by
      unfold a_set
      repeat first | rw [if_pos (by omega)] | rw [if_neg (by omega)]
    rw [ha]
    exact ⟨rfl, Or.inl ⟨by decide, rfl⟩⟩
  · refine ⟨3, 0, by first | decide | omega, by first | decide | omega, en_Ct_eq (R_tRowv (by omega) hS tv) ?_⟩
    refine br_eq_n (by decide) (by decide) (by decide) ?_
    refine ⟨2, 0, by first | decide | omega, by first | decide | omega, en_Ct_eq (R_refX (-4) (by omega) M) ?_⟩
    have ha : a_set M s i = (3, (-4)) := by
      unfold a_set
      repeat first | rw [if_pos (by omega)] | rw [if_neg (by omega)]
    rw [ha]
    exact ⟨rfl, Or.inl ⟨by decide, rfl⟩⟩
  · refine ⟨3, 0, by first | decide | omega, by first | decide | omega, en_Ct_eq (R_tRowv (by omega) hS tv) ?_⟩
    refine br_eq_y (by decide) (by decide) (by decide) ?_
    refine aw_69_19 ?_
    refine ⟨s.toNat, it_nn (x := s) (by omega), (show s.toNat < 8 by omega), ?_⟩
    by_cases c5 : 0 ≤ i ∧ i ≤ ((M.1 (68 + 2 * s.toNat) 1) - 1)
    · refine ⟨1, 0, by first | decide | omega, by first | decide | omega, en_Ct_t (R_within i 0 ((M.1 (68 + 2 * s.toNat) 1) - 1) (by omega) (by omega) (by omega) _) c5 ?_⟩
      refine br_ne_y (by decide) (by decide) (by decide) ?_
      refine aw_69_45 ?_
      refine ⟨s.toNat, it_nn (x := s) (by omega), (show s.toNat < 8 by omega), ?_⟩
      refine ⟨2, 0, by first | decide | omega, by first | decide | omega, en_Ct_eq (R_putS (68 + 2 * s.toNat) i v (by omega) hv M (by omega)) ?_⟩
      have ha : a_set M s i = (0, 1) := by
        unfold a_set
        repeat first | rw [if_pos (by omega)] | rw [if_neg (by omega)]
      rw [ha]
      exact ⟨rfl, Or.inr ⟨rfl, rfl⟩⟩
    · refine ⟨1, 0, by first | decide | omega, by first | decide | omega, en_Ct_f (R_within i 0 ((M.1 (68 + 2 * s.toNat) 1) - 1) (by omega) (by omega) (by omega) _) c5 ?_⟩
      refine br_ne_n (by decide) (by decide) (by decide) ?_
      refine ⟨2, 0, by first | decide | omega, by first | decide | omega, en_Ct_eq (R_refX (-2) (by omega) M) ?_⟩
      have ha : a_set M s i = (1, (-2)) := by
        unfold a_set
        repeat first | rw [if_pos (by omega)] | rw [if_neg (by omega)]
      rw [ha]
      exact ⟨rfl, Or.inl ⟨by decide, rfl⟩⟩
theorem R_setM (s i v : Int) (hs : -2147483648 ≤ s ∧ s < 2147483648) (hi : -2147483648 ≤ i ∧ i < 2147483648) (hv : -9223372036854775808 ≤ v ∧ v < 9223372036854775808) (M : Mm) (hA : ∀ k : Nat, k < 8 → 0 ≤ M.1 85 k ∧ M.1 85 k ≤ 2) (hB : ∀ k : Nat, k < 8 → M.1 85 k = 1 → (0 ≤ M.1 87 k ∧ M.1 87 k ≤ 40) ∧ (0 ≤ M.1 86 k ∧ M.1 86 k ≤ 4)) : en_Ct 9 0 148 [.inr (.inr (1, 6, 84)), .inl s, .inl i, .inr (.inl v)] M (fun r M' => r = some (.inl (a_setM M s i).2) ∧ (((a_setM M s i).1 ≠ 0 ∧ M' = aM M (a_setM M s i).1) ∨ ((a_setM M s i).1 = 0 ∧ M' = en_wL M (89 + 1 * s.toNat) i.toNat (lowb (M.1 86 s.toNat) v)))) := by
  have hA1 : (0 ≤ s ∧ s ≤ 7) → (0 ≤ M.1 85 s.toNat ∧ M.1 85 s.toNat ≤ 2) := fun z => hA _ (by omega)
  have hB1 : (0 ≤ s ∧ s ≤ 7) → M.1 85 s.toNat = 1 → (0 ≤ M.1 87 s.toNat ∧ M.1 87 s.toNat ≤ 40) ∧ (0 ≤ M.1 86 s.toNat ∧ M.1 86 s.toNat ≤ 4) := fun z => hB _ (by omega)
  refine ct_148 rfl ?_
  refine aw_148_0 ?_
  rcases nRow_c M s with ⟨tv, t1⟩ | ⟨tv, t1, t2⟩ | ⟨tv, t1, t2⟩ | ⟨tv, t1, t2, t3⟩
  · refine ⟨2, 0, by first | decide | omega, by first | decide | omega, en_Ct_eq (R_noRowv (by omega) hA tv) ?_⟩
    refine br_eq_n (by decide) (by decide) (by decide) ?_
    have ha : a_setM M s i = (1, (-2)) := by
      unfold a_setM
      repeat first | rw [if_pos (by omega)] | rw [if_neg (by omega)]
    rw [ha]
    exact ⟨rfl, Or.inl ⟨by decide, rfl⟩⟩
  · refine ⟨2, 0, by first | decide | omega, by first | decide | omega, en_Ct_eq (R_noRowv (by omega) hA tv) ?_⟩
    refine br_eq_n (by decide) (by decide) (by decide) ?_
    have ha : a_setM M s i = (2, (-3)) := by
      unfold a_setM
      repeat first | rw [if_pos (by omega)] | rw [if_neg (by omega)]
    rw [ha]
    exact ⟨rfl, Or.inl ⟨by decide, rfl⟩⟩
  · refine ⟨2, 0, by first | decide | omega, by first | decide | omega, en_Ct_eq (R_noRowv (by omega) hA tv) ?_⟩
    refine br_eq_n (by decide) (by decide) (by decide) ?_
    have ha : a_setM M s i = (3, (-4)) := by
      unfold a_setM
      repeat first | rw [if_pos (by omega)] | rw [if_neg (by omega)]
    rw [ha]
    exact ⟨rfl, Or.inl ⟨by decide, rfl⟩⟩
  · refine ⟨2, 0, by first | decide | omega, by first | decide | omega, en_Ct_eq (R_noRowv (by omega) hA tv) ?_⟩
    refine br_eq_y (by decide) (by decide) (by decide) ?_
    refine aw_148_15 ?_
    refine ⟨s.toNat, it_nn (x := s) (by omega), (show s.toNat < 8 by omega), ?_⟩
    by_cases c5 : 0 ≤ i ∧ i ≤ ((M.1 87 s.toNat) - 1)
    · refine ⟨1, 0, by first | decide | omega, by first | decide | omega, en_Ct_t (R_in (en_wr i) 0 (en_wr ((M.1 87 s.toNat) - 1)) i 0 ((M.1 87 s.toNat) - 1) (wl_wr ⟨by omega, by omega⟩) (wl_of ⟨by omega, by omega⟩) (wl_wr ⟨by omega, by omega⟩) _) c5 ?_⟩
      refine br_ne_y (by decide) (by decide) (by decide) ?_
      refine aw_148_40 ?_
      refine ⟨s.toNat, it_nn (x := s) (by omega), (show s.toNat < 8 by omega), ?_⟩
      refine ⟨s.toNat, it_nn (x := s) (by omega), (show s.toNat < 8 by omega), ?_⟩
      refine ⟨1, 0, by first | decide | omega, by first | decide | omega, en_Ct_eq (R_fit (M.1 86 s.toNat) (by omega) v hv M) ?_⟩
      refine ⟨i.toNat, it_nn (x := i) (by omega), (show i.toNat < 40 by omega), ?_⟩
      have ha : a_setM M s i = (0, 1) := by
        unfold a_setM
        repeat first | rw [if_pos (by omega)] | rw [if_neg (by omega)]
      rw [ha]
      exact ⟨rfl, Or.inr ⟨rfl, rfl⟩⟩
    · refine ⟨1, 0, by first | decide | omega, by first | decide | omega, en_Ct_f (R_in (en_wr i) 0 (en_wr ((M.1 87 s.toNat) - 1)) i 0 ((M.1 87 s.toNat) - 1) (wl_wr ⟨by omega, by omega⟩) (wl_of ⟨by omega, by omega⟩) (wl_wr ⟨by omega, by omega⟩) _) c5 ?_⟩
      refine br_ne_n (by decide) (by decide) (by decide) ?_
      refine ⟨1, 0, by first | decide | omega, by first | decide | omega, en_Ct_eq (R_refM (-2) (by omega) M) ?_⟩
      have ha : a_setM M s i = (1, (-2)) := by
        unfold a_setM
        repeat first | rw [if_pos (by omega)] | rw [if_neg (by omega)]
      rw [ha]
      exact ⟨rfl, Or.inl ⟨by decide, rfl⟩⟩
theorem a_set_eq {M M1 : Mm} (h : cS M) (h84 : ∀ a, 84 ≤ a → M1.1 a = M.1 a) (s i : Int) : a_setM M1 s i = a_set M s i := by
  unfold a_setM a_set
  rw [h84 85 (by decide), h84 87 (by decide)]
  by_cases hs : 0 ≤ s ∧ s ≤ 7
  · rw [if_pos hs, if_pos hs]
    rcases sMk h (k := s.toNat) (by omega) with z | z | z
    · rw [if_neg (by omega), if_pos z.1, if_neg (by omega), if_neg (by omega)]
    · obtain ⟨z1, z2, z3, z4, z5⟩ := z
      rw [if_neg (by omega), if_neg (by omega), z5, if_neg (show ¬ M.1 (68 + 2 * s.toNat) 0 = 10 by omega), if_pos z2]
    · rw [if_pos z.1, if_pos z.2]
  · rw [if_neg hs, if_neg hs]
theorem S_set {s i v : Int} (hs : -2147483648 ≤ s ∧ s < 2147483648) (hi : -2147483648 ≤ i ∧ i < 2147483648) (hv : -9223372036854775808 ≤ v ∧ v < 9223372036854775808) : sameC 69 148 [.inl s, .inl i, .inr (.inl v)] := by
  intro M hc
  have hS := hc.2.2.2.2
  have hcd : (a_set M s i).1 = 0 → (0 ≤ s ∧ s ≤ 7) ∧ (0 ≤ M.1 (68 + 2 * s.toNat) 0 ∧ M.1 (68 + 2 * s.toNat) 0 ≤ 4) ∧ 0 ≤ i ∧ i < M.1 (68 + 2 * s.toNat) 1 := by
    intro h0
    unfold a_set at h0
    split at h0
    · split at h0
      · cases h0
      · split at h0
        · split at h0
          · exact ⟨‹_›, ‹_›, ‹_›⟩
          · cases h0
        · cases h0
    · cases h0
  refine same_sh (hx := 9) (hm := 9) (k := s.toNat) (f := a_set M s i) (X := fun M => en_wL M (68 + 2 * s.toNat + 1) i.toNat (lowb (M.1 (68 + 2 * s.toNat) 0) v)) (Y := fun M => en_wL M (89 + 1 * s.toNat) i.toNat (lowb (M.1 86 s.toNat) v)) hc (by decide) (by decide) (fun h => by have := hcd h; omega) (by unfold a_set; (repeat' split) <;> decide) (R_setX s i v hs hi hv M hS) (fun _ a ha => rfl) (fun _ a ha => by simp [en_wL, ha]) (fun M1 h84 h84' => ?_) (fun M1 a _ _ _ _ => rfl) (fun M1 a i _ => rfl) (fun M1 a z1 _ => by simp only [en_wL]; rw [if_neg z1]) (fun h => ?_)
  · have := R_setM s i v hs hi hv M1 (fun k hk => by rw [h84 85 (by decide)]; exact sh_Mo hS hk) (fun k hk h1 => by rw [h84 85 (by decide)] at h1; rw [h84 86 (by decide), h84 87 (by decide)]; exact sh_M2 hS hk h1)
    rw [a_set_eq hS h84] at this
    exact this
  · have hcd := hcd h
    have hk8 : s.toNat < 8 := by omega
    generalize s.toNat = k at *
    have hc1 := hS k hk8
    rcases hc1 with z | z | z
    · omega
    · obtain ⟨z1, z2, z3, z4, z5, z6⟩ := z
      refine Or.inr (Or.inl ⟨z1, z2, z3, z4, z5, fun j hj => ?_⟩)
      have e4 : ¬ 68 + 2 * k + 1 = 89 + 1 * k := by omega
      have e5 : ¬ 89 + 1 * k = 68 + 2 * k + 1 := by omega
      have d := z6 j hj
      have hl := lowb_rng (t := M.1 (68 + 2 * k) 0) hv
      have q1 : ∀ N : Mm, ∀ a b c x, (en_wL N a b x).2 a c = if c = b then x else N.2 a c := fun N a b c x => by simp [en_wL]
      have q2 : ∀ N : Mm, ∀ a a' b x, a' ≠ a → (en_wL N a b x).2 a' = N.2 a' := fun N a a' b x hne => by simp [en_wL, hne]
      show (en_wL (en_wL M (68 + 2 * k + 1) i.toNat (lowb (M.1 (68 + 2 * k) 0) v)) (89 + 1 * k) i.toNat (lowb (M.1 86 k) v)).2 (68 + 2 * k + 1) j = (en_wL (en_wL M (68 + 2 * k + 1) i.toNat (lowb (M.1 (68 + 2 * k) 0) v)) (89 + 1 * k) i.toNat (lowb (M.1 86 k) v)).2 (89 + 1 * k) j ∧ -9223372036854775808 ≤ (en_wL (en_wL M (68 + 2 * k + 1) i.toNat (lowb (M.1 (68 + 2 * k) 0) v)) (89 + 1 * k) i.toNat (lowb (M.1 86 k) v)).2 (68 + 2 * k + 1) j ∧ (en_wL (en_wL M (68 + 2 * k + 1) i.toNat (lowb (M.1 (68 + 2 * k) 0) v)) (89 + 1 * k) i.toNat (lowb (M.1 86 k) v)).2 (68 + 2 * k + 1) j < 9223372036854775808
      rw [q2 _ _ _ _ _ e4, q1, q1, q2 _ _ _ _ _ e5, z3]
      by_cases hj2 : j = i.toNat
      · rw [if_pos hj2, if_pos hj2]
        exact ⟨rfl, hl⟩
      · rw [if_neg hj2, if_neg hj2]
        exact d
    · have := z.2.1
      omega
