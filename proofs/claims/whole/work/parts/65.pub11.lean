theorem cpl_T {M M' : Mm} (h : cpl M) (h1 : ∀ a, a ≠ 61 → a ≠ 62 → a ≠ 84 → a ≠ 99 → M'.1 a = M.1 a) (h2 : M'.2 = M.2) (h3 : ∀ i, i ≠ 7 → M'.1 84 i = M.1 84 i) (hT : cT M') : cpl M' := by
  obtain ⟨⟨c1, c2⟩, c3, c4, c5, c6⟩ := h
  have hv : ∀ e, e + 16 ≤ 61 → evs (vE M' e) (vE M e) := fun e he => vE_fr (fun a z0 z1 => h1 a (by omega) (by omega) (by omega) (by omega))
  have hu : ∀ b, b = 84 ∨ b = 158 → evs (vM M' b) (vM M b) := fun b hb => vM_fr (fun i hi => by
    rcases hb with rfl | rfl
    · exact h3 i (by omega)
    · rw [h1 158 (by decide) (by decide) (by decide) (by decide)]) (fun a z0 z1 => h1 a (by omega) (by omega) (by omega) (by omega))
  refine ⟨⟨ev_ok (evs_symm (hv 1 (by omega))) c1, evs_tr (hv 1 (by omega)) (evs_tr c2 (evs_symm (hu 84 (by omega))))⟩, ?_, hT, ?_, ?_⟩
  · unfold cI at c3 ⊢
    rw [h1 0 (by decide) (by decide) (by decide) (by decide), h3 24 (by decide)]
    rcases c3 with h | ⟨z1, z2, z3, z4⟩
    · exact Or.inl h
    · exact Or.inr ⟨z1, z2, ev_ok (evs_symm (hv 17 (by omega))) z3, evs_tr (hv 17 (by omega)) (evs_tr z4 (evs_symm (hu 158 (by omega))))⟩
  · unfold cR at c5 ⊢
    rw [h1 66 (by decide) (by decide) (by decide) (by decide), h1 100 (by decide) (by decide) (by decide) (by decide)]
    exact c5
  · intro s hs
    have := c6 s hs
    unfold cS1 at this ⊢
    rw [h1 85 (by decide) (by decide) (by decide) (by decide), h1 86 (by decide) (by decide) (by decide) (by decide), h1 87 (by decide) (by decide) (by decide) (by decide), h1 98 (by decide) (by decide) (by decide) (by decide), h1 1 (by decide) (by decide) (by decide) (by decide), h1 (68 + 2 * s) (by omega) (by omega) (by omega) (by omega), h2]
    exact this
def a_feed (n x : Int) : Nat × Int := if 0 ≤ x ∧ x ≤ 255 then (if n < 250 then (0, n + 1) else (5, -6)) else (1, -2)
def fX (M : Mm) (x : Int) : Mm := en_wI (en_wI M 62 (M.1 61 0).toNat x) 61 0 (M.1 61 0 + 1)
def fM (M : Mm) (x : Int) : Mm := en_wI (en_wI M 84 7 (M.1 84 7 + 1)) 99 (M.1 84 7).toNat x
theorem R_wipeX (M : Mm) : en_Ct 9 0 82 [.inr (.inr (1, 5, 0))] M (fun r M' => r = some (.inl (M.1 61 0)) ∧ M' = en_wI M 61 0 0) := by
  refine ct_82 rfl ?_
  refine aw_82_0 ?_
  exact ⟨rfl, rfl⟩
theorem R_wipeM (M : Mm) : en_Ct 9 0 172 [.inr (.inr (1, 6, 84))] M (fun r M' => r = some (.inl (M.1 84 7)) ∧ M' = en_wI M 84 7 0) := by
  refine ct_172 rfl ?_
  refine aw_172_0 ?_
  exact ⟨rfl, rfl⟩
theorem S_wipe : sameC 82 172 [] := by
  intro M hc
  refine ⟨9, by decide, en_Ct_eq (R_wipeX M) ⟨_, rfl, 9, 0, by decide, Nat.zero_le _, en_Ct_eq (R_wipeM _) ⟨?_, ?_, ?_⟩⟩⟩
  · exact congrArg (fun z => some (Sum.inl z)) (show M.1 84 7 = M.1 61 0 from hc.2.2.1.2.1)
  · refine cpl_T hc (fun a z1 z2 z3 z4 => by simp [en_wI, z1, z3]) rfl (fun i hi => by simp [en_wI, hi]) ⟨by simp [en_wI], by simp [en_wI], fun i hi => ?_⟩
    simp [en_wI] at hi
    omega
  · rw [bl_eq (M := M) (fun i hi => by
      have : i ≠ 7 := by omega
      simp [en_wI, this])]
    omega
theorem R_take (x : Int) (M : Mm) (h0 : 0 ≤ M.1 61 0) (h1 : M.1 61 0 < 250) : en_Ct 1 0 45 [.inr (.inr (1, 3, 61)), .inl x] M (fun r M' => r = some (.inl (if M.1 61 0 < 250 then 1 else 0)) ∧ M' = fX M x) := by
  refine ct_45 rfl ?_
  refine aw_45_0 ?_
  refine br_lt_y (a := M.1 61 0) (b := 250) (by omega) (by omega) (by omega) ?_
  refine aw_45_12 ?_
  refine ⟨(M.1 61 0).toNat, it_nn (x := M.1 61 0) (by omega), (show (M.1 61 0).toNat < 250 by omega), ?_⟩
  exact ⟨Or.inr rfl, by rw [if_pos h1], rfl⟩
theorem R_take0 (x : Int) (M : Mm) (h1 : 250 ≤ M.1 61 0 ∧ M.1 61 0 ≤ 250) : en_Ct 1 0 45 [.inr (.inr (1, 3, 61)), .inl x] M (fun r M' => r = some (.inl (if M.1 61 0 < 250 then 1 else 0)) ∧ M' = M) := by
  refine ct_45 rfl ?_
  refine aw_45_0 ?_
  refine br_lt_n (a := M.1 61 0) (b := 250) (by omega) (by omega) (by omega) ?_
  exact ⟨Or.inl rfl, by rw [if_neg (by omega)], rfl⟩
theorem R_feedX (x : Int) (hx : -2147483648 ≤ x ∧ x < 2147483648) (M : Mm) (h0 : 0 ≤ M.1 61 0) (h1 : M.1 61 0 ≤ 250) : en_Ct 9 0 81 [.inr (.inr (1, 5, 0)), .inl x] M (fun r M' => r = some (.inl (a_feed (M.1 61 0) x).2) ∧ (((a_feed (M.1 61 0) x).1 ≠ 0 ∧ M' = aX M (a_feed (M.1 61 0) x).1) ∨ ((a_feed (M.1 61 0) x).1 = 0 ∧ M' = fX M x))) := by
  refine ct_81 rfl ?_
  refine aw_81_0 ?_
  by_cases c1 : 0 ≤ x ∧ x ≤ 255
  · refine ⟨1, 0, by first | decide | omega, by first | decide | omega, en_Ct_t (R_within x 0 255 (by omega) (by omega) (by omega) _) c1 ?_⟩
    refine br_ne_y (by decide) (by decide) (by decide) ?_
    refine aw_81_18 ?_
    by_cases qt : M.1 61 0 < 250
    · refine ⟨1, 0, by first | decide | omega, by first | decide | omega, en_Ct_t (R_take x M h0 (by omega)) qt ?_⟩
      refine br_eq_n (by decide) (by decide) (by decide) ?_
      refine aw_81_45 ?_
      have ha : a_feed (M.1 61 0) x = (0, M.1 61 0 + 1) := by
        unfold a_feed
        repeat first | rw [if_pos (by omega)] | rw [if_neg (by omega)]
      rw [ha]
      exact ⟨congrArg (fun z => some (Sum.inl z)) (by simp [fX, en_wI]), Or.inr ⟨rfl, rfl⟩⟩
    · refine ⟨1, 0, by first | decide | omega, by first | decide | omega, en_Ct_f (R_take0 x M (by omega)) qt ?_⟩
      refine br_eq_y (by decide) (by decide) (by decide) ?_
      refine aw_81_39 ?_
      refine ⟨2, 0, by first | decide | omega, by first | decide | omega, en_Ct_eq (R_refX (-6) (by omega) M) ?_⟩
      refine aw_81_45 ?_
      have ha : a_feed (M.1 61 0) x = (5, (-6)) := by
        unfold a_feed
        repeat first | rw [if_pos (by omega)] | rw [if_neg (by omega)]
      rw [ha]
      exact ⟨rfl, Or.inl ⟨by decide, rfl⟩⟩
  · refine ⟨1, 0, by first | decide | omega, by first | decide | omega, en_Ct_f (R_within x 0 255 (by omega) (by omega) (by omega) _) c1 ?_⟩
    refine br_ne_n (by decide) (by decide) (by decide) ?_
    refine ⟨2, 0, by first | decide | omega, by first | decide | omega, en_Ct_eq (R_refX (-2) (by omega) M) ?_⟩
    have ha : a_feed (M.1 61 0) x = (1, (-2)) := by
      unfold a_feed
      repeat first | rw [if_pos (by omega)] | rw [if_neg (by omega)]
    rw [ha]
    exact ⟨rfl, Or.inl ⟨by decide, rfl⟩⟩
theorem R_feedM (x : Int) (hx : -2147483648 ≤ x ∧ x < 2147483648) (M : Mm) (h0 : 0 ≤ M.1 84 7) (h1 : M.1 84 7 ≤ 250) : en_Ct 9 0 171 [.inr (.inr (1, 6, 84)), .inl x] M (fun r M' => r = some (.inl (a_feed (M.1 84 7) x).2) ∧ (((a_feed (M.1 84 7) x).1 ≠ 0 ∧ M' = aM M (a_feed (M.1 84 7) x).1) ∨ ((a_feed (M.1 84 7) x).1 = 0 ∧ M' = fM M x))) := by
  refine ct_171 rfl ?_
  refine aw_171_0 ?_
  by_cases c1 : 0 ≤ x ∧ x ≤ 255
  · refine ⟨1, 0, by first | decide | omega, by first | decide | omega, en_Ct_t (R_in (en_wr x) 0 255 x 0 255 (wl_wr ⟨by omega, by omega⟩) (wl_of ⟨by omega, by omega⟩) (wl_of ⟨by omega, by omega⟩) _) c1 ?_⟩
    refine br_ne_y (by decide) (by decide) (by decide) ?_
    refine aw_171_19 ?_
    refine br_ne (a := M.1 84 7) (b := 250) (by omega) (by omega) (fun q3 => ?_) (fun q3 => ?_)
    · refine aw_171_36 ?_
      refine ⟨(M.1 84 7).toNat, it_nn (x := M.1 84 7) (by omega), (show (M.1 84 7).toNat < 250 by omega), ?_⟩
      have ha : a_feed (M.1 84 7) x = (0, M.1 84 7 + 1) := by
        unfold a_feed
        repeat first | rw [if_pos (by omega)] | rw [if_neg (by omega)]
      rw [ha]
      exact ⟨congrArg (fun z => some (Sum.inl z)) (by simp [en_wI]), Or.inr ⟨rfl, rfl⟩⟩
    · refine ⟨1, 0, by first | decide | omega, by first | decide | omega, en_Ct_eq (R_refM (-6) (by omega) M) ?_⟩
      have ha : a_feed (M.1 84 7) x = (5, (-6)) := by
        unfold a_feed
        repeat first | rw [if_pos (by omega)] | rw [if_neg (by omega)]
      rw [ha]
      exact ⟨rfl, Or.inl ⟨by decide, rfl⟩⟩
  · refine ⟨1, 0, by first | decide | omega, by first | decide | omega, en_Ct_f (R_in (en_wr x) 0 255 x 0 255 (wl_wr ⟨by omega, by omega⟩) (wl_of ⟨by omega, by omega⟩) (wl_of ⟨by omega, by omega⟩) _) c1 ?_⟩
    refine br_ne_n (by decide) (by decide) (by decide) ?_
    refine ⟨1, 0, by first | decide | omega, by first | decide | omega, en_Ct_eq (R_refM (-2) (by omega) M) ?_⟩
    have ha : a_feed (M.1 84 7) x = (1, (-2)) := by
      unfold a_feed
      repeat first | rw [if_pos (by omega)] | rw [if_neg (by omega)]
    rw [ha]
    exact ⟨rfl, Or.inl ⟨by decide, rfl⟩⟩
theorem S_feed {x : Int} (hx : -2147483648 ≤ x ∧ x < 2147483648) : sameC 81 171 [.inl x] := by
  intro M hc
  have hT := hc.2.2.1
  obtain ⟨⟨t1, t2⟩, t3, t4⟩ := hT
  refine ⟨9, by decide, en_Ct_mono (R_feedX x hx M t1 t2) ?_⟩
  rintro r M1 ⟨rfl, hs⟩
  have h84 : M1.1 84 = M.1 84 := by
    rcases hs with ⟨-, rfl⟩ | ⟨-, rfl⟩
    · exact aX_84 84 (by decide)
    · simp [fX, en_wI]
  have e7 : M1.1 84 7 = M.1 61 0 := by rw [h84]; exact t3
  refine ⟨_, rfl, 9, 0, by decide, Nat.zero_le _, en_Ct_mono (R_feedM x hx M1 (by omega) (by omega)) ?_⟩
  rintro r M2 ⟨rfl, hs2⟩
  rw [e7] at hs2 ⊢
  refine ⟨rfl, ?_⟩
  rcases hs with ⟨h0, hs⟩ | ⟨h0, hs⟩
  · rcases hs2 with ⟨-, hs2⟩ | ⟨z, -⟩
    · cases hq : (a_feed (M.1 61 0) x).1 with
      | zero => exact absurd hq h0
      | succ k =>
        rw [hq] at hs hs2
        have hk : k < 5 := by
          unfold a_feed at hq
          (repeat' split at hq) <;> simp at hq <;> omega
        subst hs hs2
        refine ⟨cpl_rf hc hk, ?_⟩
        rw [bl_eq (M := M) (fun i hi => by simp [aM, aX, rfM, rfX, en_wI])]
        omega
    · exact absurd z h0
  · rcases hs2 with ⟨z, -⟩ | ⟨-, hs2⟩
    · exact absurd h0 z
    · subst hs hs2
      have hc2 : (0 ≤ x ∧ x ≤ 255) ∧ M.1 61 0 < 250 := by
        unfold a_feed at h0
        by_cases z1 : 0 ≤ x ∧ x ≤ 255
        · by_cases z2 : M.1 61 0 < 250
          · exact ⟨z1, z2⟩
          · rw [if_pos z1, if_neg z2] at h0
            cases h0
        · rw [if_neg z1] at h0
          cases h0
      have q7 : (fX M x).1 84 7 = M.1 61 0 := e7
      refine ⟨cpl_T hc (fun a z1 z2 z3 z4 => by simp [fM, fX, en_wI, z1, z2, z3, z4]) rfl (fun i hi => by simp [fM, fX, en_wI, hi]) ⟨?_, ?_, fun i hi => ?_⟩, ?_⟩
      · simp [fM, fX, en_wI]
        omega
      · simp [fM, fX, en_wI]
        exact t3
      · have hi' : (i : Int) < M.1 61 0 + 1 := by simpa [fM, fX, en_wI] using hi
        have r1 : (fM (fX M x) x).1 62 i = if i = (M.1 61 0).toNat then x else M.1 62 i := by simp [fM, fX, en_wI]
        have r2 : (fM (fX M x) x).1 99 i = if i = (M.1 61 0).toNat then x else M.1 99 i := by
          unfold fM
          rw [q7]
          simp [fX, en_wI]
        rw [r1, r2]
        by_cases hh : i = (M.1 61 0).toNat
        · rw [if_pos hh, if_pos hh]
          exact ⟨rfl, hc2.1⟩
        · rw [if_neg hh, if_neg hh]
          exact t4 i (by omega)
      · rw [bl_eq (M := M) (fun i hi => by
          have : i ≠ 7 := by omega
          simp [fM, fX, en_wI, this])]
        omega
