def exM (M : Mm) (A i j : Nat) : Mm := en_wI (en_wI M A i (M.1 A j)) A j (M.1 A i)
theorem R_exch (A : Nat) (i j : Int) (hi : 0 ≤ i ∧ i < 5) (hj : 0 ≤ j ∧ j < 5) (M : Mm) : en_Ct 1 0 124 [.inr (.inr (2, 5, A)), .inl i, .inl j] M (fun r M' => r = none ∧ M' = exM M A i.toNat j.toNat) := by
  refine ct_124 rfl ?_
  refine aw_124_0 ?_
  refine ⟨i.toNat, it_nn (x := i) (by omega), (show i.toNat < 5 by omega), ?_⟩
  refine ⟨j.toNat, it_nn (x := j) (by omega), (show j.toNat < 5 by omega), ?_⟩
  refine ⟨i.toNat, it_nn (x := i) (by omega), (show i.toNat < 5 by omega), ?_⟩
  refine ⟨j.toNat, it_nn (x := j) (by omega), (show j.toNat < 5 by omega), ?_⟩
  exact ⟨rfl, rfl⟩
def exE (E : Ev) (p i j : Nat) : Ev := ups (ups E p i (E.2 p j)) p j (E.2 p i)
theorem exE_at {E : Ev} {p i j a : Nat} : (exE E p i j).2 p a = E.2 p (if a = j then i else if a = i then j else a) := by
  unfold exE
  by_cases h1 : a = j
  · subst h1
    rw [ups_s, if_pos rfl]
  · rw [if_neg h1, ups_n (Or.inr h1)]
    by_cases h2 : a = i
    · subst h2
      rw [ups_s, if_pos rfl]
    · rw [if_neg h2, ups_n (Or.inr h2)]
theorem exE_ne {E : Ev} {p i j q : Nat} (h : q ≠ p) : (exE E p i j).2 q = E.2 q := by simp [exE, ups, h]
theorem exM_at {M : Mm} {A i j : Nat} : (exM M A i j).1 A i = M.1 A j := by
  unfold exM en_wI
  by_cases h : i = j
  · subst h; simp
  · simp [h]
def a_swap (E : Ev) (x : Int) (i : Int) (j : Int) : Nat × Int := if (0 ≤ x ∧ x < E.1 0 2) ∧ (0 ≤ i ∧ i < E.1 14 x.toNat) ∧ 0 ≤ j ∧ j < E.1 14 x.toNat then (0, E.2 x.toNat j.toNat) else (1, -2)
def u_swap (E : Ev) (x : Int) (i : Int) (j : Int) : Ev := exE E x.toNat i.toNat j.toNat
theorem PX_swap (E : Ev) (M : Mm) (hI : isE M 1 E) (hg : s_ok E) (x : Int) (i : Int) (j : Int)  (hx : -2147483648 ≤ x ∧ x < 2147483648) (hi : -2147483648 ≤ i ∧ i < 2147483648) (hj : -2147483648 ≤ j ∧ j < 2147483648) : en_Ct 9 0 95 [.inr (.inr (1, 5, 0)), .inl x, .inl i, .inl j] M (fun r M' => r = some (.inl (a_swap E x i j).2) ∧ (((a_swap E x i j).1 ≠ 0 ∧ sX (aX M (a_swap E x i j).1) M') ∨ ((a_swap E x i j).1 = 0 ∧ xE M M' ∧ isE M' 1 (u_swap E x i j)))) := by
  obtain ⟨n0, n1, n2, a0, a1, a2, a3, a4, a5, a6, a7⟩ := hg.1
  have r0 : M.1 1 0 = E.1 0 0 := r0_I hI 0
  have r1 : M.1 1 1 = E.1 0 1 := r0_I hI 1
  have r2 : M.1 1 2 = E.1 0 2 := r0_I hI 2
  have e14 : M.1 15 = E.1 14 := hI.1 14 (by decide)
  have s14 : ∀ p, p < 4 → 0 ≤ E.1 14 p ∧ E.1 14 p ≤ 5 := fun p hp => (hg.2.2.1 p hp).1
  have s15 : (0 ≤ x ∧ x < E.1 0 2) → 0 ≤ M.1 15 x.toNat ∧ M.1 15 x.toNat ≤ 5 := fun z => by rw [e14]; exact s14 _ (by omega)
  have e15 : M.1 15 x.toNat = E.1 14 x.toNat := congrFun e14 _
  refine ct_95 rfl ?_
  refine aw_95_0 ?_
  by_cases c1 : 0 ≤ x ∧ x < E.1 0 2
  · refine ⟨2, 0, by first | decide | omega, by first | decide | omega, en_Ct_t (X_isPerson (M := M) (e := 1) (E := E) hI hg (x := x) (by omega)) c1 ?_⟩
    refine br_eq_n (by decide) (by decide) (by decide) ?_
    refine ⟨x.toNat, it_nn (x := x) (by omega), (show x.toNat < 4 by omega), ?_⟩
    by_cases c3 : 0 ≤ i ∧ i ≤ ((M.1 15 x.toNat) - 1)
    · refine ⟨1, 0, by first | decide | omega, by first | decide | omega, en_Ct_t (R_within i 0 ((M.1 15 x.toNat) - 1) (by omega) (by omega) (by omega) _) c3 ?_⟩
      refine br_eq_n (by decide) (by decide) (by decide) ?_
      refine ⟨x.toNat, it_nn (x := x) (by omega), (show x.toNat < 4 by omega), ?_⟩
      by_cases c5 : 0 ≤ j ∧ j ≤ ((M.1 15 x.toNat) - 1)
      · refine ⟨1, 0, by first | decide | omega, by first | decide | omega, en_Ct_t (R_within j 0 ((M.1 15 x.toNat) - 1) (by omega) (by omega) (by omega) _) c5 ?_⟩
        refine br_ne_y (by decide) (by decide) (by decide) ?_
        refine aw_95_56 ?_
        refine ⟨x.toNat, it_nn (x := x) (by omega), (show x.toNat < 4 by omega), ?_⟩
        refine ⟨1, 0, by first | decide | omega, by first | decide | omega, en_Ct_eq (R_exch (11 + 1 * x.toNat) i j (by omega) (by omega) M) ?_⟩
        refine ⟨x.toNat, it_nn (x := x) (by omega), (show x.toNat < 4 by omega), ?_⟩
        refine ⟨i.toNat, it_nn (x := i) (by omega), (show i.toNat < 5 by omega), ?_⟩
        have ha : a_swap E x i j = (0, (exM M (11 + 1 * x.toNat) i.toNat j.toNat).1 (11 + 1 * x.toNat) i.toNat) := by
          unfold a_swap
          repeat first | rw [if_pos (by omega)] | rw [if_neg (by omega)]
          first | done | rfl | (rw [← show M.1 (11 + 1 * x.toNat) = E.2 x.toNat from hI.2 x.toNat (by omega)]; exact congrArg (fun z : Int => (0, z)) exM_at.symm)
        rw [ha]
        refine ⟨rfl, Or.inr ⟨rfl, ?_⟩⟩
        refine ⟨xE_w (xE_w xE_rfl (by omega)) (by omega), ?_⟩
        unfold u_swap exE
        rw [← show M.1 (11 + 1 * x.toNat) = E.2 x.toNat from hI.2 x.toNat (by omega)]
        exact isE_ws (isE_ws hI (p := x.toNat) (by omega) _ _) (p := x.toNat) (by omega) _ _
      · refine ⟨1, 0, by first | decide | omega, by first | decide | omega, en_Ct_f (R_within j 0 ((M.1 15 x.toNat) - 1) (by omega) (by omega) (by omega) _) c5 ?_⟩
        refine br_ne_n (by decide) (by decide) (by decide) ?_
        refine aw_95_49 ?_
        refine ⟨2, 0, by first | decide | omega, by first | decide | omega, en_Ct_eq (R_refX (-2) (by omega) M) ?_⟩
        have ha : a_swap E x i j = (1, (-2)) := by
          unfold a_swap
          repeat first | rw [if_pos (by omega)] | rw [if_neg (by omega)]
          first | done | rfl | (rw [← show M.1 (11 + 1 * x.toNat) = E.2 x.toNat from hI.2 x.toNat (by omega)]; exact congrArg (fun z : Int => (0, z)) exM_at.symm)
        rw [ha]
        exact ⟨rfl, Or.inl ⟨by decide, sX_rfl⟩⟩
    · refine ⟨1, 0, by first | decide | omega, by first | decide | omega, en_Ct_f (R_within i 0 ((M.1 15 x.toNat) - 1) (by omega) (by omega) (by omega) _) c3 ?_⟩
      refine br_eq_y (by decide) (by decide) (by decide) ?_
      refine aw_95_49 ?_
      refine ⟨2, 0, by first | decide | omega, by first | decide | omega, en_Ct_eq (R_refX (-2) (by omega) M) ?_⟩
      have ha : a_swap E x i j = (1, (-2)) := by
        unfold a_swap
        repeat first | rw [if_pos (by omega)] | rw [if_neg (by omega)]
        first | done | rfl | (rw [← show M.1 (11 + 1 * x.toNat) = E.2 x.toNat from hI.2 x.toNat (by omega)]; exact congrArg (fun z : Int => (0, z)) exM_at.symm)
      rw [ha]
      exact ⟨rfl, Or.inl ⟨by decide, sX_rfl⟩⟩
  · refine ⟨2, 0, by first | decide | omega, by first | decide | omega, en_Ct_f (X_isPerson (M := M) (e := 1) (E := E) hI hg (x := x) (by omega)) c1 ?_⟩
    refine br_eq_y (by decide) (by decide) (by decide) ?_
    refine aw_95_49 ?_
    refine ⟨2, 0, by first | decide | omega, by first | decide | omega, en_Ct_eq (R_refX (-2) (by omega) M) ?_⟩
    have ha : a_swap E x i j = (1, (-2)) := by
      unfold a_swap
      repeat first | rw [if_pos (by omega)] | rw [if_neg (by omega)]
      first | done | rfl | (rw [← show M.1 (11 + 1 * x.toNat) = E.2 x.toNat from hI.2 x.toNat (by omega)]; exact congrArg (fun z : Int => (0, z)) exM_at.symm)
    rw [ha]
    exact ⟨rfl, Or.inl ⟨by decide, sX_rfl⟩⟩
theorem PM_swap (E : Ev) (M : Mm) (hJ : isM M 84 E) (hg : s_ok E) (x : Int) (i : Int) (j : Int)  (hx : -2147483648 ≤ x ∧ x < 2147483648) (hi : -2147483648 ≤ i ∧ i < 2147483648) (hj : -2147483648 ≤ j ∧ j < 2147483648) : en_Ct 9 0 229 [.inr (.inr (1, 6, 84)), .inl x, .inl i, .inl j] M (fun r M' => r = some (.inl (a_swap E x i j).2) ∧ (((a_swap E x i j).1 ≠ 0 ∧ sM (aM M (a_swap E x i j).1) M') ∨ ((a_swap E x i j).1 = 0 ∧ mE M M' ∧ isM M' 84 (u_swap E x i j)))) := by
  obtain ⟨n0, n1, n2, a0, a1, a2, a3, a4, a5, a6, a7⟩ := hg.1
  have r0 : M.1 84 9 = E.1 0 0 := hJ.1.1
  have r1 : M.1 84 10 = E.1 0 1 := hJ.1.2.1
  have r2 : M.1 84 18 = E.1 0 2 := hJ.1.2.2.1
  have e14 : M.1 113 = E.1 14 := hJ.2.1.2.1
  have s14 : ∀ p, p < 4 → 0 ≤ E.1 14 p ∧ E.1 14 p ≤ 5 := fun p hp => (hg.2.2.1 p hp).1
  have s15 : (0 ≤ x ∧ x < E.1 0 2) → 0 ≤ M.1 113 x.toNat ∧ M.1 113 x.toNat ≤ 5 := fun z => by rw [e14]; exact s14 _ (by omega)
  have e15 : M.1 113 x.toNat = E.1 14 x.toNat := congrFun e14 _
  refine ct_229 rfl ?_
  refine aw_229_0 ?_
  by_cases c1 : 0 ≤ x ∧ x < E.1 0 2
  · refine ⟨2, 0, by first | decide | omega, by first | decide | omega, en_Ct_t (M_isPerson (M := M) (E := E) hJ hg (x := x) (by omega)) c1 ?_⟩
    refine br_eq_n (by decide) (by decide) (by decide) ?_
    refine ⟨x.toNat, it_nn (x := x) (by omega), (show x.toNat < 4 by omega), ?_⟩
    by_cases c3 : 0 ≤ i ∧ i ≤ ((M.1 113 x.toNat) - 1)
    · refine ⟨1, 0, by first | decide | omega, by first | decide | omega, en_Ct_t (R_in (en_wr i) 0 (en_wr ((M.1 113 x.toNat) - 1)) i 0 ((M.1 113 x.toNat) - 1) (wl_wr ⟨by omega, by omega⟩) (wl_of ⟨by omega, by omega⟩) (wl_wr ⟨by omega, by omega⟩) _) c3 ?_⟩
      refine br_eq_n (by decide) (by decide) (by decide) ?_
      refine ⟨x.toNat, it_nn (x := x) (by omega), (show x.toNat < 4 by omega), ?_⟩
      by_cases c5 : 0 ≤ j ∧ j ≤ ((M.1 113 x.toNat) - 1)
      · refine ⟨1, 0, by first | decide | omega, by first | decide | omega, en_Ct_t (R_in (en_wr j) 0 (en_wr ((M.1 113 x.toNat) - 1)) j 0 ((M.1 113 x.toNat) - 1) (wl_wr ⟨by omega, by omega⟩) (wl_of ⟨by omega, by omega⟩) (wl_wr ⟨by omega, by omega⟩) _) c5 ?_⟩
        refine br_ne_y (by decide) (by decide) (by decide) ?_
        refine aw_229_51 ?_
        refine ⟨x.toNat, it_nn (x := x) (by omega), (show x.toNat < 4 by omega), ?_⟩
        refine ⟨i.toNat, it_nn (x := i) (by omega), (show i.toNat < 5 by omega), ?_⟩
        refine ⟨x.toNat, it_nn (x := x) (by omega), (show x.toNat < 4 by omega), ?_⟩
        refine ⟨x.toNat, it_nn (x := x) (by omega), (show x.toNat < 4 by omega), ?_⟩
        refine ⟨j.toNat, it_nn (x := j) (by omega), (show j.toNat < 5 by omega), ?_⟩
        refine ⟨i.toNat, it_nn (x := i) (by omega), (show i.toNat < 5 by omega), ?_⟩
        refine ⟨x.toNat, it_nn (x := x) (by omega), (show x.toNat < 4 by omega), ?_⟩
        refine ⟨j.toNat, it_nn (x := j) (by omega), (show j.toNat < 5 by omega), ?_⟩
        refine ⟨x.toNat, it_nn (x := x) (by omega), (show x.toNat < 4 by omega), ?_⟩
        refine ⟨i.toNat, it_nn (x := i) (by omega), (show i.toNat < 5 by omega), ?_⟩
        have ha : a_swap E x i j = (0, (en_wI (en_wI M (109 + 1 * x.toNat) i.toNat (M.1 (109 + 1 * x.toNat) j.toNat)) (109 + 1 * x.toNat) j.toNat (M.1 (109 + 1 * x.toNat) i.toNat)).1 (109 + 1 * x.toNat) i.toNat) := by
          unfold a_swap
          repeat first | rw [if_pos (by omega)] | rw [if_neg (by omega)]
          first | done | rfl | (rw [← show M.1 (109 + 1 * x.toNat) = E.2 x.toNat from hJ.2.2 x.toNat (by omega)]; exact congrArg (fun z : Int => (0, z)) (exM_at (A := 109 + 1 * x.toNat)).symm)
        rw [ha]
        refine ⟨rfl, Or.inr ⟨rfl, ?_⟩⟩
        refine ⟨mE_w (a := 109 + 1 * x.toNat) (mE_w (a := 109 + 1 * x.toNat) mE_rfl (by omega)) (by omega), ?_⟩
        unfold u_swap exE
        rw [← show M.1 (109 + 1 * x.toNat) = E.2 x.toNat from hJ.2.2 x.toNat (by omega)]
        exact isM_ws (isM_ws hJ (p := x.toNat) (by omega) _ _) (p := x.toNat) (by omega) _ _
      · refine ⟨1, 0, by first | decide | omega, by first | decide | omega, en_Ct_f (R_in (en_wr j) 0 (en_wr ((M.1 113 x.toNat) - 1)) j 0 ((M.1 113 x.toNat) - 1) (wl_wr ⟨by omega, by omega⟩) (wl_of ⟨by omega, by omega⟩) (wl_wr ⟨by omega, by omega⟩) _) c5 ?_⟩
        refine br_ne_n (by decide) (by decide) (by decide) ?_
        refine aw_229_44 ?_
        refine ⟨1, 0, by first | decide | omega, by first | decide | omega, en_Ct_eq (R_refM (-2) (by omega) M) ?_⟩
        have ha : a_swap E x i j = (1, (-2)) := by
          unfold a_swap
          repeat first | rw [if_pos (by omega)] | rw [if_neg (by omega)]
          first | done | rfl | (rw [← show M.1 (109 + 1 * x.toNat) = E.2 x.toNat from hJ.2.2 x.toNat (by omega)]; exact congrArg (fun z : Int => (0, z)) (exM_at (A := 109 + 1 * x.toNat)).symm)
        rw [ha]
        exact ⟨rfl, Or.inl ⟨by decide, sM_rfl⟩⟩
    · refine ⟨1, 0, by first | decide | omega, by first | decide | omega, en_Ct_f (R_in (en_wr i) 0 (en_wr ((M.1 113 x.toNat) - 1)) i 0 ((M.1 113 x.toNat) - 1) (wl_wr ⟨by omega, by omega⟩) (wl_of ⟨by omega, by omega⟩) (wl_wr ⟨by omega, by omega⟩) _) c3 ?_⟩
      refine br_eq_y (by decide) (by decide) (by decide) ?_
      refine aw_229_44 ?_
      refine ⟨1, 0, by first | decide | omega, by first | decide | omega, en_Ct_eq (R_refM (-2) (by omega) M) ?_⟩
      have ha : a_swap E x i j = (1, (-2)) := by
        unfold a_swap
        repeat first | rw [if_pos (by omega)] | rw [if_neg (by omega)]
        first | done | rfl | (rw [← show M.1 (109 + 1 * x.toNat) = E.2 x.toNat from hJ.2.2 x.toNat (by omega)]; exact congrArg (fun z : Int => (0, z)) (exM_at (A := 109 + 1 * x.toNat)).symm)
      rw [ha]
      exact ⟨rfl, Or.inl ⟨by decide, sM_rfl⟩⟩
  · refine ⟨2, 0, by first | decide | omega, by first | decide | omega, en_Ct_f (M_isPerson (M := M) (E := E) hJ hg (x := x) (by omega)) c1 ?_⟩
    refine br_eq_y (by decide) (by decide) (by decide) ?_
    refine aw_229_44 ?_
    refine ⟨1, 0, by first | decide | omega, by first | decide | omega, en_Ct_eq (R_refM (-2) (by omega) M) ?_⟩
    have ha : a_swap E x i j = (1, (-2)) := by
      unfold a_swap
      repeat first | rw [if_pos (by omega)] | rw [if_neg (by omega)]
      first | done | rfl | (rw [← show M.1 (109 + 1 * x.toNat) = E.2 x.toNat from hJ.2.2 x.toNat (by omega)]; exact congrArg (fun z : Int => (0, z)) (exM_at (A := 109 + 1 * x.toNat)).symm)
    rw [ha]
    exact ⟨rfl, Or.inl ⟨by decide, sM_rfl⟩⟩
theorem ea_swap {E F : Ev} (h : evs E F) (hg : s_ok E) {x : Int} {i : Int} {j : Int} : a_swap E x i j = a_swap F x i j := by
  have hb := hg.1.2.2.1
  have hw := hg.1.2.1
  unfold a_swap
  rw [← h.1 2 (by decide)]
  by_cases hx : 0 ≤ x ∧ x < E.1 0 2
  · rw [← (h.2.2.2.1 x.toNat (by omega)).1]
    by_cases hc : (0 ≤ x ∧ x < E.1 0 2) ∧ (0 ≤ i ∧ i < E.1 14 x.toNat) ∧ 0 ≤ j ∧ j < E.1 14 x.toNat
    · rw [if_pos hc, if_pos hc, h.2.2.2.2 x.toNat j.toNat (by omega) (by omega)]
    · rw [if_neg hc, if_neg hc]
  · rw [if_neg (by omega), if_neg (by omega)]
theorem eu_swap {E F : Ev} (h : evs E F) (hg : s_ok E) {x : Int} {i : Int} {j : Int}  (h0 : (a_swap E x i j).1 = 0) : evs (u_swap E x i j) (u_swap F x i j) ∧ s_ok (u_swap E x i j) ∧ E.1 0 1 ≤ (u_swap E x i j).1 0 1 := by
  have hb := hg.1.2.2.1
  have hw := hg.1.2.1
  have hc : (0 ≤ x ∧ x < E.1 0 2) ∧ (0 ≤ i ∧ i < E.1 14 x.toNat) ∧ 0 ≤ j ∧ j < E.1 14 x.toNat := by
    unfold a_swap at h0
    by_cases z1 : (0 ≤ x ∧ x < E.1 0 2) ∧ (0 ≤ i ∧ i < E.1 14 x.toNat) ∧ 0 ≤ j ∧ j < E.1 14 x.toNat
    · exact z1
    · rw [if_neg z1] at h0
      cases h0
  obtain ⟨g1, g2, g3, g4, g5⟩ := hg
  obtain ⟨z1, z2⟩ := g3 x.toNat (by omega)
  refine ⟨?_, ⟨g1, g2, fun p hp => ?_, fun p hp a b hab hb => ?_, g5⟩, Int.le_refl _⟩
  · unfold u_swap exE
    rw [← h.2.2.2.2 x.toNat i.toNat (by omega) (by omega), ← h.2.2.2.2 x.toNat j.toNat (by omega) (by omega)]
    exact ev_ups (ev_ups h _) _
  · by_cases hpx : p = x.toNat
    · subst hpx
      refine ⟨z1, fun a ha => ?_⟩
      have ha' : (a : Int) < E.1 14 x.toNat := ha
      show 0 ≤ (exE E x.toNat i.toNat j.toNat).2 x.toNat a ∧ (exE E x.toNat i.toNat j.toNat).2 x.toNat a < E.1 0 1
      rw [exE_at]
      refine z2 _ ?_
      split
      · omega
      · split <;> omega
    · refine ⟨(g3 p hp).1, fun a ha => ?_⟩
      show 0 ≤ (exE E x.toNat i.toNat j.toNat).2 p a ∧ (exE E x.toNat i.toNat j.toNat).2 p a < E.1 0 1
      rw [exE_ne hpx]
      exact (g3 p hp).2 a ha
  · have hb' : (b : Int) < E.1 14 p := hb
    show E.1 4 ((exE E x.toNat i.toNat j.toNat).2 p a).toNat ≠ E.1 4 ((exE E x.toNat i.toNat j.toNat).2 p b).toNat
    by_cases hpx : p = x.toNat
    · subst hpx
      rw [exE_at, exE_at]
      have key : ∀ c d : Nat, c ≠ d → (c : Int) < E.1 14 x.toNat → (d : Int) < E.1 14 x.toNat → E.1 4 (E.2 x.toNat c).toNat ≠ E.1 4 (E.2 x.toNat d).toNat := by
        intro c d hcd h1 h2
        rcases Nat.lt_or_gt_of_ne hcd with h | h
        · exact g4 _ hp c d h h2
        · exact fun z => g4 _ hp d c h h1 z.symm
      refine key _ _ ?_ ?_ ?_
      · (repeat' split) <;> omega
      · (repeat' split) <;> omega
      · (repeat' split) <;> omega
    · rw [exE_ne hpx]
      exact g4 p hp a b hab hb
theorem S_swap {x : Int}  {i : Int}  {j : Int}  (hx : -2147483648 ≤ x ∧ x < 2147483648) (hi : -2147483648 ≤ i ∧ i < 2147483648) (hj : -2147483648 ≤ j ∧ j < 2147483648) : sameC 95 229 [.inl x, .inl i, .inl j] := same_up (f := fun E => a_swap E x i j) (u := fun E => u_swap E x i j) (by decide) (by decide) (fun E M h1 h2 => PX_swap E M h1 h2 x i j  hx hi hj) (fun E M h1 h2 => PM_swap E M h1 h2 x i j  hx hi hj) (fun E F h1 h2 => ea_swap h1 h2) (fun E => by show (a_swap E x i j).1 ≤ 5; unfold a_swap; (repeat' split) <;> exact Nat.le_of_ble_eq_true rfl) (fun E F h1 h2 h3 => eu_swap h1 h2  h3)
