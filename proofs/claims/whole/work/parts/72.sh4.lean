/-- one shelf changed on both sides -/
theorem cpl_S {M M' : Mm} (h : cpl M) {s : Nat} (hs : s < 8) (h1 : ∀ a, a ≠ 68 + 2 * s → a ≠ 85 → a ≠ 86 → a ≠ 87 → a ≠ 98 → M'.1 a = M.1 a) (h3 : ∀ a i, a = 85 ∨ a = 86 ∨ a = 87 ∨ a = 98 → i ≠ s → M'.1 a i = M.1 a i) (h2 : ∀ a, a ≠ 68 + 2 * s + 1 → a ≠ 89 + 1 * s → (68 ≤ a ∧ a < 97) → M'.2 a = M.2 a) (hS : cS1 M' s) : cpl M' := by
  obtain ⟨⟨c1, c2⟩, c3, c4, c5, c6⟩ := h
  have hv : ∀ e, e + 16 ≤ 61 → evs (vE M' e) (vE M e) := fun e he => vE_fr (fun a z0 z1 => h1 a (by omega) (by omega) (by omega) (by omega) (by omega))
  have hu : ∀ b, b = 84 ∨ b = 158 → evs (vM M' b) (vM M b) := fun b hb => vM_fr (fun i hi => by rw [h1 b (by omega) (by omega) (by omega) (by omega) (by omega)]) (fun a z0 z1 => h1 a (by omega) (by omega) (by omega) (by omega) (by omega))
  refine ⟨⟨ev_ok (evs_symm (hv 1 (by omega))) c1, evs_tr (hv 1 (by omega)) (evs_tr c2 (evs_symm (hu 84 (by omega))))⟩, ?_, ?_, ?_, ?_⟩
  · unfold cI at c3 ⊢
    rw [h1 0 (by omega) (by omega) (by omega) (by omega) (by omega), h1 84 (by omega) (by omega) (by omega) (by omega) (by omega)]
    rcases c3 with h | ⟨z1, z2, z3, z4⟩
    · exact Or.inl h
    · exact Or.inr ⟨z1, z2, ev_ok (evs_symm (hv 17 (by omega))) z3, evs_tr (hv 17 (by omega)) (evs_tr z4 (evs_symm (hu 158 (by omega))))⟩
  · unfold cT at c4 ⊢
    rw [h1 61 (by omega) (by omega) (by omega) (by omega) (by omega), h1 84 (by omega) (by omega) (by omega) (by omega) (by omega), h1 62 (by omega) (by omega) (by omega) (by omega) (by omega), h1 99 (by omega) (by omega) (by omega) (by omega) (by omega)]
    exact c4
  · unfold cR at c5 ⊢
    rw [h1 66 (by omega) (by omega) (by omega) (by omega) (by omega), h1 100 (by omega) (by omega) (by omega) (by omega) (by omega)]
    exact c5
  · intro t ht
    by_cases hts : t = s
    · subst hts; exact hS
    · have := c6 t ht
      unfold cS1 at this ⊢
      rw [h3 85 t (by omega) hts, h3 86 t (by omega) hts, h3 87 t (by omega) hts, h3 98 t (by omega) hts, h1 1 (by omega) (by omega) (by omega) (by omega) (by omega), h1 (68 + 2 * t) (by omega) (by omega) (by omega) (by omega) (by omega), h2 (68 + 2 * t + 1) (by omega) (by omega) (by omega), h2 (89 + 1 * t) (by omega) (by omega) (by omega)]
      exact this
def a_show (W s w : Int) : Nat × Int := if (0 ≤ s ∧ s ≤ 7) ∧ (w = -1 ∨ (0 ≤ w ∧ w < W)) then (0, 1) else (1, -2)
def shX (M : Mm) (A : Nat) (w : Int) : Mm := if w = -1 then clS M A else bwS M A w
def shM (M : Mm) (s : Nat) (w : Int) : Mm := en_wI (en_wI M 85 s (if w = -1 then 0 else 2)) 98 s w
theorem R_showX (E : Ev) (M : Mm) (hI : isE M 1 E) (hg : s_ok E) (s w : Int) (hs : -2147483648 ≤ s ∧ s < 2147483648) (hw : -2147483648 ≤ w ∧ w < 2147483648) : en_Ct 9 0 73 [.inr (.inr (1, 5, 0)), .inl s, .inl w] M (fun r M' => r = some (.inl (a_show (E.1 0 1) s w).2) ∧ (((a_show (E.1 0 1) s w).1 ≠ 0 ∧ M' = aX M (a_show (E.1 0 1) s w).1) ∨ ((a_show (E.1 0 1) s w).1 = 0 ∧ M' = shX M (68 + 2 * s.toNat) w))) := by
  obtain ⟨n0, n1, n2, a0, a1, a2, a3, a4, a5, a6, a7⟩ := hg.1
  have r0 : M.1 1 0 = E.1 0 0 := r0_I hI 0
  have r1 : M.1 1 1 = E.1 0 1 := r0_I hI 1
  have r2 : M.1 1 2 = E.1 0 2 := r0_I hI 2
  refine ct_73 rfl ?_
  refine aw_73_0 ?_
  by_cases c1 : 0 ≤ s ∧ s ≤ 7
  · refine ⟨2, 0, by first | decide | omega, by first | decide | omega, en_Ct_t (R_isShelf s (by omega) _) c1 ?_⟩
    refine br_eq_n (by decide) (by decide) (by decide) ?_
    refine br_eq (a := w) (b := (-1)) (by omega) (by omega) (fun q3 => ?_) (fun q3 => ?_)
    · refine aw_73_30 ?_
      refine br_ne (a := w) (b := (-1)) (by omega) (by omega) (fun q4 => ?_) (fun q4 => ?_)
      · refine aw_73_47 ?_
        refine ⟨s.toNat, it_nn (x := s) (by omega), (show s.toNat < 8 by omega), ?_⟩
        refine ⟨2, 0, by first | decide | omega, by first | decide | omega, en_Ct_eq (R_becomeWord (68 + 2 * s.toNat) w M) ?_⟩
        refine aw_73_57 ?_
        have ha : a_show (E.1 0 1) s w = (0, 1) := by
          unfold a_show
          repeat first | rw [if_pos (by omega)] | rw [if_neg (by omega)]
        rw [ha]
        refine ⟨rfl, Or.inr ⟨rfl, ?_⟩⟩
        exact (if_neg (by omega)).symm
      · refine ⟨s.toNat, it_nn (x := s) (by omega), (show s.toNat < 8 by omega), ?_⟩
        refine ⟨1, 0, by first | decide | omega, by first | decide | omega, en_Ct_eq (R_clear (68 + 2 * s.toNat) M) ?_⟩
        refine aw_73_57 ?_
        have ha : a_show (E.1 0 1) s w = (0, 1) := by
          unfold a_show
          repeat first | rw [if_pos (by omega)] | rw [if_neg (by omega)]
        rw [ha]
        refine ⟨rfl, Or.inr ⟨rfl, ?_⟩⟩
        exact (if_pos (by omega)).symm
    · by_cases c5 : 0 ≤ w ∧ w < E.1 0 1
      · refine ⟨2, 0, by first | decide | omega, by first | decide | omega, en_Ct_t (X_isWord (M := M) (e := 1) (E := E) hI hg (x := w) (by omega)) c5 ?_⟩
        refine br_ne_y (by decide) (by decide) (by decide) ?_
        refine aw_73_30 ?_
        refine br_ne (a := w) (b := (-1)) (by omega) (by omega) (fun q7 => ?_) (fun q7 => ?_)
        · refine aw_73_47 ?_
          refine ⟨s.toNat, it_nn (x := s) (by omega), (show s.toNat < 8 by omega), ?_⟩
          refine ⟨2, 0, by first | decide | omega, by first | decide | omega, en_Ct_eq (R_becomeWord (68 + 2 * s.toNat) w M) ?_⟩
          refine aw_73_57 ?_
          have ha : a_show (E.1 0 1) s w = (0, 1) := by
            unfold a_show
            repeat first | rw [if_pos (by omega)] | rw [if_neg (by omega)]
          rw [ha]
          refine ⟨rfl, Or.inr ⟨rfl, ?_⟩⟩
          exact (if_neg (by omega)).symm
        · refine ⟨s.toNat, it_nn (x := s) (by omega), (show s.toNat < 8 by omega), ?_⟩
          refine ⟨1, 0, by first | decide | omega, by first | decide | omega, en_Ct_eq (R_clear (68 + 2 * s.toNat) M) ?_⟩
          refine aw_73_57 ?_
          have ha : a_show (E.1 0 1) s w = (0, 1) := by
            unfold a_show
            repeat first | rw [if_pos (by omega)] | rw [if_neg (by omega)]
          rw [ha]
          refine ⟨rfl, Or.inr ⟨rfl, ?_⟩⟩
          exact (if_pos (by omega)).symm
      · refine ⟨2, 0, by first | decide | omega, by first | decide | omega, en_Ct_f (X_isWord (M := M) (e := 1) (E := E) hI hg (x := w) (by omega)) c5 ?_⟩
        refine br_ne_n (by decide) (by decide) (by decide) ?_
        refine aw_73_23 ?_
        refine ⟨2, 0, by first | decide | omega, by first | decide | omega, en_Ct_eq (R_refX (-2) (by omega) M) ?_⟩
        have ha : a_show (E.1 0 1) s w = (1, (-2)) := by
          unfold a_show
          repeat first | rw [if_pos (by omega)] | rw [if_neg (by omega)]
        rw [ha]
        exact ⟨rfl, Or.inl ⟨by decide, rfl⟩⟩
  · refine ⟨2, 0, by first | decide | omega, by first | decide | omega, en_Ct_f (R_isShelf s (by omega) _) c1 ?_⟩
    refine br_eq_y (by decide) (by decide) (by decide) ?_
    refine aw_73_23 ?_
    refine ⟨2, 0, by first | decide | omega, by first | decide | omega, en_Ct_eq (R_refX (-2) (by omega) M) ?_⟩
    have ha : a_show (E.1 0 1) s w = (1, (-2)) := by
      unfold a_show
      repeat first | rw [if_pos (by omega)] | rw [if_neg (by omega)]
    rw [ha]
    exact ⟨rfl, Or.inl ⟨by decide, rfl⟩⟩
theorem R_showM (E : Ev) (M : Mm) (hJ : isM M 84 E) (hg : s_ok E) (s w : Int) (hs : -2147483648 ≤ s ∧ s < 2147483648) (hw : -2147483648 ≤ w ∧ w < 2147483648) : en_Ct 9 0 152 [.inr (.inr (1, 6, 84)), .inl s, .inl w] M (fun r M' => r = some (.inl (a_show (E.1 0 1) s w).2) ∧ (((a_show (E.1 0 1) s w).1 ≠ 0 ∧ M' = aM M (a_show (E.1 0 1) s w).1) ∨ ((a_show (E.1 0 1) s w).1 = 0 ∧ M' = shM M s.toNat w))) := by
  obtain ⟨n0, n1, n2, a0, a1, a2, a3, a4, a5, a6, a7⟩ := hg.1
  have r0 : M.1 84 9 = E.1 0 0 := hJ.1.1
  have r1 : M.1 84 10 = E.1 0 1 := hJ.1.2.1
  have r2 : M.1 84 18 = E.1 0 2 := hJ.1.2.2.1
  refine ct_152 rfl ?_
  refine aw_152_0 ?_
  by_cases c1 : 0 ≤ s ∧ s ≤ 7
  · refine ⟨1, 0, by first | decide | omega, by first | decide | omega, en_Ct_t (R_in (en_wr s) 0 7 s 0 7 (wl_wr ⟨by omega, by omega⟩) (wl_of ⟨by omega, by omega⟩) (wl_of ⟨by omega, by omega⟩) _) c1 ?_⟩
    refine br_eq_n (by decide) (by decide) (by decide) ?_
    refine br_eq (a := w) (b := (-1)) (by omega) (by omega) (fun q3 => ?_) (fun q3 => ?_)
    · refine aw_152_32 ?_
      refine br_ne (a := w) (b := (-1)) (by omega) (by omega) (fun q4 => ?_) (fun q4 => ?_)
      · refine aw_152_46 ?_
        refine aw_152_47 ?_
        refine ⟨s.toNat, it_nn (x := s) (by omega), (show s.toNat < 8 by omega), ?_⟩
        refine ⟨s.toNat, it_nn (x := s) (by omega), (show s.toNat < 8 by omega), ?_⟩
        have ha : a_show (E.1 0 1) s w = (0, 1) := by
          unfold a_show
          repeat first | rw [if_pos (by omega)] | rw [if_neg (by omega)]
        rw [ha]
        refine ⟨rfl, Or.inr ⟨rfl, ?_⟩⟩
        unfold shM
        rw [if_neg (by omega)]
      · refine aw_152_47 ?_
        refine ⟨s.toNat, it_nn (x := s) (by omega), (show s.toNat < 8 by omega), ?_⟩
        refine ⟨s.toNat, it_nn (x := s) (by omega), (show s.toNat < 8 by omega), ?_⟩
        have ha : a_show (E.1 0 1) s w = (0, 1) := by
          unfold a_show
          repeat first | rw [if_pos (by omega)] | rw [if_neg (by omega)]
        rw [ha]
        refine ⟨rfl, Or.inr ⟨rfl, ?_⟩⟩
        unfold shM
        rw [if_pos (by omega)]
    · by_cases c5 : 0 ≤ w ∧ w < E.1 0 1
      · refine ⟨2, 0, by first | decide | omega, by first | decide | omega, en_Ct_t (M_isWord (M := M) (E := E) hJ hg (x := w) (by omega)) c5 ?_⟩
        refine br_ne_y (by decide) (by decide) (by decide) ?_
        refine aw_152_32 ?_
        refine br_ne (a := w) (b := (-1)) (by omega) (by omega) (fun q7 => ?_) (fun q7 => ?_)
        · refine aw_152_46 ?_
          refine aw_152_47 ?_
          refine ⟨s.toNat, it_nn (x := s) (by omega), (show s.toNat < 8 by omega), ?_⟩
          refine ⟨s.toNat, it_nn (x := s) (by omega), (show s.toNat < 8 by omega), ?_⟩
          have ha : a_show (E.1 0 1) s w = (0, 1) := by
            unfold a_show
            repeat first | rw [if_pos (by omega)] | rw [if_neg (by omega)]
          rw [ha]
          refine ⟨rfl, Or.inr ⟨rfl, ?_⟩⟩
          unfold shM
          rw [if_neg (by omega)]
        · refine aw_152_47 ?_
          refine ⟨s.toNat, it_nn (x := s) (by omega), (show s.toNat < 8 by omega), ?_⟩
          refine ⟨s.toNat, it_nn (x := s) (by omega), (show s.toNat < 8 by omega), ?_⟩
          have ha : a_show (E.1 0 1) s w = (0, 1) := by
            unfold a_show
            repeat first | rw [if_pos (by omega)] | rw [if_neg (by omega)]
          rw [ha]
          refine ⟨rfl, Or.inr ⟨rfl, ?_⟩⟩
          unfold shM
          rw [if_pos (by omega)]
      · refine ⟨2, 0, by first | decide | omega, by first | decide | omega, en_Ct_f (M_isWord (M := M) (E := E) hJ hg (x := w) (by omega)) c5 ?_⟩
        refine br_ne_n (by decide) (by decide) (by decide) ?_
        refine aw_152_25 ?_
        refine ⟨1, 0, by first | decide | omega, by first | decide | omega, en_Ct_eq (R_refM (-2) (by omega) M) ?_⟩
        have ha : a_show (E.1 0 1) s w = (1, (-2)) := by
          unfold a_show
          repeat first | rw [if_pos (by omega)] | rw [if_neg (by omega)]
        rw [ha]
        exact ⟨rfl, Or.inl ⟨by decide, rfl⟩⟩
  · refine ⟨1, 0, by first | decide | omega, by first | decide | omega, en_Ct_f (R_in (en_wr s) 0 7 s 0 7 (wl_wr ⟨by omega, by omega⟩) (wl_of ⟨by omega, by omega⟩) (wl_of ⟨by omega, by omega⟩) _) c1 ?_⟩
    refine br_eq_y (by decide) (by decide) (by decide) ?_
    refine aw_152_25 ?_
    refine ⟨1, 0, by first | decide | omega, by first | decide | omega, en_Ct_eq (R_refM (-2) (by omega) M) ?_⟩
    have ha : a_show (E.1 0 1) s w = (1, (-2)) := by
      unfold a_show
      repeat first | rw [if_pos (by omega)] | rw [if_neg (by omega)]
    rw [ha]
    exact ⟨rfl, Or.inl ⟨by decide, rfl⟩⟩
theorem S_show {s w : Int} (hs : -2147483648 ≤ s ∧ s < 2147483648) (hw : -2147483648 ≤ w ∧ w < 2147483648) : sameC 73 152 [.inl s, .inl w] := by
  intro M hc
  have hg := ev_ok hc.1.2 hc.1.1
  have e1 : (vM M 84).1 0 1 = (vE M 1).1 0 1 := (hc.1.2.1 1 (by decide)).symm
  refine ⟨9, by decide, en_Ct_mono (R_showX (vE M 1) M isE_self hc.1.1 s w hs hw) ?_⟩
  rintro r M1 ⟨rfl, hx⟩
  have h84 : ∀ a, 84 ≤ a → M1.1 a = M.1 a := by
    intro a ha
    rcases hx with ⟨-, rfl⟩ | ⟨h0, rfl⟩
    · exact aX_84 a ha
    · have hs8 : s.toNat < 8 := by
        unfold a_show at h0
        by_cases z : (0 ≤ s ∧ s ≤ 7) ∧ (w = -1 ∨ (0 ≤ w ∧ w < (vE M 1).1 0 1))
        · omega
        · rw [if_neg z] at h0; cases h0
      have hne : ¬ a = 68 + 2 * s.toNat := by omega
      unfold shX
      split <;> simp [clS, bwS, en_wI, hne]
  refine ⟨_, rfl, 9, 0, by decide, Nat.zero_le _, en_Ct_mono (R_showM (vM M 84) M1 (isM_x isM_self h84) hg s w hs hw) ?_⟩
  rintro r M2 ⟨rfl, hm⟩
  rw [e1] at hm ⊢
  refine ⟨rfl, ?_⟩
  rcases hx with ⟨h0, hx⟩ | ⟨h0, hx⟩
  · rcases hm with ⟨-, hm⟩ | ⟨z, -⟩
    · cases hq : (a_show ((vE M 1).1 0 1) s w).1 with
      | zero => exact absurd hq h0
      | succ k =>
        rw [hq] at hx hm
        have hk : k < 5 := by
          unfold a_show at hq
          split at hq <;> simp at hq <;> omega
        subst hx hm
        refine ⟨cpl_rf hc hk, ?_⟩
        rw [bl_eq (M := M) (fun i hi => by simp [aM, aX, rfM, rfX, en_wI])]
        omega
    · exact absurd z h0
  · rcases hm with ⟨z, -⟩ | ⟨-, hm⟩
    · exact absurd h0 z
    · have hcd : (0 ≤ s ∧ s ≤ 7) ∧ (w = -1 ∨ (0 ≤ w ∧ w < (vE M 1).1 0 1)) := by
        unfold a_show at h0
        by_cases z : (0 ≤ s ∧ s ≤ 7) ∧ (w = -1 ∨ (0 ≤ w ∧ w < (vE M 1).1 0 1))
        · exact z
        · rw [if_neg z] at h0; cases h0
      have hs8 : s.toNat < 8 := by omega
      generalize hk : s.toNat = k at *
      have hx1 : ∀ a, a ≠ 68 + 2 * k → M1.1 a = M.1 a := fun a ha => by
        subst hx
        unfold shX
        split <;> simp [clS, bwS, en_wI, ha]
      have hx2 : M1.2 = M.2 := by
        subst hx
        unfold shX
        split <;> rfl
      have hm1 : ∀ a, a ≠ 85 → a ≠ 98 → M2.1 a = M1.1 a := fun a h1 h2 => by subst hm; simp [shM, en_wI, h1, h2]
      have hm3 : ∀ a i, i ≠ k → M2.1 a i = M1.1 a i := fun a i h1 => by
        subst hm
        simp only [shM, en_wI]
        by_cases z1 : a = 98
        · subst z1; simp [h1]
        · by_cases z2 : a = 85
          · subst z2; simp [h1]
          · simp [z1, z2]
      have hm2 : M2.2 = M1.2 := by subst hm; rfl
      refine ⟨cpl_S hc hs8 (fun a z1 z2 z3 z4 z5 => (hm1 a z2 z5).trans (hx1 a z1)) (fun a i z1 z2 => (hm3 a i z2).trans (congrFun (hx1 a (by omega)) i)) (fun a _ _ _ => by rw [hm2, hx2]) ?_, ?_⟩
      · have b85 : M2.1 85 k = if w = -1 then 0 else 2 := by subst hm; simp [shM, en_wI]
        have b98 : M2.1 98 k = w := by subst hm; simp [shM, en_wI]
        have bA : M2.1 (68 + 2 * k) = M1.1 (68 + 2 * k) := hm1 _ (by omega) (by omega)
        have bW : M2.1 1 1 = M.1 1 1 := by rw [hm1 1 (by decide) (by decide), hx1 1 (by omega)]
        by_cases hw1 : w = -1
        · refine Or.inl ⟨by rw [b85, if_pos hw1], ?_⟩
          rw [bA, hx]
          unfold shX
          rw [if_pos hw1]
          simp [clS, en_wI]
        · have c0 : M2.1 (68 + 2 * k) 0 = 10 := by
            rw [bA, hx]
            unfold shX
            rw [if_neg hw1]
            simp [bwS, en_wI]
          have c2 : M2.1 (68 + 2 * k) 2 = w := by
            rw [bA, hx]
            unfold shX
            rw [if_neg hw1]
            simp [bwS, en_wI]
          have hW : (vE M 1).1 0 1 = M.1 1 1 := rfl
          exact Or.inr (Or.inr ⟨by rw [b85, if_neg hw1], c0, by rw [b98, c2], by rw [c2]; omega, by rw [c2, bW]; omega⟩)
      · rw [bl_eq (M := M) (fun i hi => by rw [hm1 84 (by decide) (by decide), hx1 84 (by omega)])]
        omega
