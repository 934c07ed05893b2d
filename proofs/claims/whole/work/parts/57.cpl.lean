/-! the two memories say the same -/
def cE (M : Mm) : Prop := s_ok (vE M 1) ∧ evs (vE M 1) (vM M 84)
def cI (M : Mm) : Prop := (M.1 0 9 = 0 ∧ M.1 84 24 = 0) ∨ (M.1 0 9 = 1 ∧ M.1 84 24 ≠ 0 ∧ s_ok (vE M 17) ∧ evs (vE M 17) (vM M 158))
def cT (M : Mm) : Prop := (0 ≤ M.1 61 0 ∧ M.1 61 0 ≤ 250) ∧ M.1 84 7 = M.1 61 0 ∧ ∀ i : Nat, (i : Int) < M.1 61 0 → M.1 62 i = M.1 99 i ∧ 0 ≤ M.1 62 i ∧ M.1 62 i ≤ 255
def cR (M : Mm) : Prop := ∀ k, k < 5 → M.1 66 k = M.1 100 (k + 2)
def cS1 (M : Mm) (s : Nat) : Prop := (M.1 85 s = 0 ∧ M.1 (68 + 2 * s) 0 = -1) ∨
  (M.1 85 s = 1 ∧ (0 ≤ M.1 (68 + 2 * s) 0 ∧ M.1 (68 + 2 * s) 0 ≤ 4) ∧ M.1 86 s = M.1 (68 + 2 * s) 0 ∧ (0 ≤ M.1 (68 + 2 * s) 1 ∧ M.1 (68 + 2 * s) 1 ≤ 40) ∧ M.1 87 s = M.1 (68 + 2 * s) 1 ∧ ∀ i, i < 40 → M.2 (68 + 2 * s + 1) i = M.2 (89 + 1 * s) i ∧ -9223372036854775808 ≤ M.2 (68 + 2 * s + 1) i ∧ M.2 (68 + 2 * s + 1) i < 9223372036854775808) ∨
  (M.1 85 s = 2 ∧ M.1 (68 + 2 * s) 0 = 10 ∧ M.1 98 s = M.1 (68 + 2 * s) 2 ∧ 0 ≤ M.1 (68 + 2 * s) 2 ∧ M.1 (68 + 2 * s) 2 < M.1 1 1)
def cS (M : Mm) : Prop := ∀ s, s < 8 → cS1 M s
def cpl (M : Mm) : Prop := cE M ∧ cI M ∧ cT M ∧ cR M ∧ cS M
/-- outside the evening now the same -/
def oE (M M' : Mm) : Prop := (∀ a, a = 0 ∨ (17 ≤ a ∧ a < 33) ∨ a = 62 ∨ a = 66 ∨ (68 ≤ a ∧ a < 84) ∨ (85 ≤ a ∧ a < 101) ∨ 158 ≤ a → M'.1 a = M.1 a) ∧ M'.1 61 0 = M.1 61 0 ∧ (M'.1 84 7 = M.1 84 7 ∧ M'.1 84 24 = M.1 84 24) ∧ ∀ a, (68 ≤ a ∧ a < 97) → M'.2 a = M.2 a
theorem vE_fr {M M' : Mm} {e : Nat} (h : ∀ a, e ≤ a → a < e + 16 → M'.1 a = M.1 a) : evs (vE M' e) (vE M e) := ⟨fun i _ => congrFun (h (e + 0) (by omega) (by omega)) i, fun i _ => congrFun (h (e + 1) (by omega) (by omega)) i, fun r i _ _ _ => congrFun (h (e + r) (by omega) (by omega)) i, fun p _ => ⟨congrFun (h (e + 14) (by omega) (by omega)) p, congrFun (h (e + 15) (by omega) (by omega)) p⟩, fun p i hp _ => congrFun (h (e + 9 + 1 + 1 * p) (by omega) (by omega)) i⟩
theorem isM_vM {M' : Mm} {b : Nat} {F : Ev} (h : isM M' b F) : evs (vM M' b) F := by
  refine ⟨fun i hi => ?_, fun i _ => congrFun (tm_1 h) i, fun r i h2 h8 _ => congrFun (tm_r h r h2 h8) i, fun p _ => ⟨congrFun (tm_14 h) p, congrFun h.2.1.2.2.1 p⟩, fun p i hp _ => congrFun (tm_s h hp) i⟩
  rcases (show i = 0 ∨ i = 1 ∨ i = 2 ∨ i = 3 by omega) with rfl | rfl | rfl | rfl
  · exact h.1.1
  · exact h.1.2.1
  · exact h.1.2.2.1
  · exact h.1.2.2.2
theorem vM_fr {M M' : Mm} {b : Nat} (h0 : ∀ i, i = 9 ∨ i = 10 ∨ i = 18 ∨ i = 23 → M'.1 b i = M.1 b i) (hr : ∀ a, b + 17 ≤ a → a < b + 32 → M'.1 a = M.1 a) : evs (vM M' b) (vM M b) := isM_vM (isM_fr isM_self h0 hr)
theorem cI_o {M M' : Mm} (h : cI M) (ho : oE M M') : cI M' := by
  have e0 := ho.1 0 (by omega)
  unfold cI at h ⊢
  rw [e0, ho.2.2.1.2]
  rcases h with h | ⟨h1, h2, h3, h4⟩
  · exact Or.inl h
  · have hv : evs (vE M' 17) (vE M 17) := vE_fr (fun a z0 z1 => ho.1 a (by omega))
    exact Or.inr ⟨h1, h2, ev_ok (evs_symm hv) h3, evs_tr hv (evs_tr h4 (evs_symm (vM_fr (fun i _ => by rw [ho.1 158 (by omega)]) (fun a z0 z1 => ho.1 a (by omega)))))⟩
theorem cT_o {M M' : Mm} (h : cT M) (ho : oE M M') : cT M' := by
  unfold cT at h ⊢
  rw [ho.2.1, ho.2.2.1.1, ho.1 62 (by omega), ho.1 99 (by omega)]
  exact h
theorem cR_o {M M' : Mm} (h : cR M) (ho : oE M M') : cR M' := by
  unfold cR at h ⊢
  rw [ho.1 66 (by omega), ho.1 100 (by omega)]
  exact h
theorem cS_o {M M' : Mm} (h : cS M) (ho : oE M M') (hw : M.1 1 1 ≤ M'.1 1 1) : cS M' := by
  intro s hs
  have h := h s hs
  unfold cS1 at h ⊢
  rw [ho.1 85 (by omega), ho.1 86 (by omega), ho.1 87 (by omega), ho.1 98 (by omega), ho.1 (68 + 2 * s) (by omega), ho.2.2.2 (68 + 2 * s + 1) (by omega), ho.2.2.2 (89 + 1 * s) (by omega)]
  rcases h with h | h | h
  · exact Or.inl h
  · exact Or.inr (Or.inl h)
  · exact Or.inr (Or.inr ⟨h.1, h.2.1, h.2.2.1, h.2.2.2.1, by omega⟩)
theorem cpl_E {M M' : Mm} (h : cpl M) (ho : oE M M') (hw : M.1 1 1 ≤ M'.1 1 1) (h1 : s_ok (vE M' 1)) (h2 : evs (vE M' 1) (vM M' 84)) : cpl M' := ⟨⟨h1, h2⟩, cI_o h.2.1 ho, cT_o h.2.2.1 ho, cR_o h.2.2.2.1 ho, cS_o h.2.2.2.2 ho hw⟩
theorem oE_s {M M1 M2 : Mm} (h : sX M M1) (h' : sM M1 M2) : oE M M2 := ⟨fun a ha => (h'.1 a (by omega)).trans (h.1 a (by omega)), by rw [h'.1 61 (by omega)]; exact h.2.1, ⟨by rw [h'.2.1 7 (by omega), h.1 84 (by omega)], by rw [h'.2.1 24 (by omega), h.1 84 (by omega)]⟩, fun a ha => (h'.2.2 a (by omega)).trans (h.2.2 a (by omega))⟩
theorem cpl_ro {M M1 M2 : Mm} (h : cpl M) (hx : sX M M1) (hm : sM M1 M2) : cpl M2 := by
  have hv : evs (vE M2 1) (vE M 1) := vE_fr (fun a z0 z1 => (hm.1 a (by omega)).trans (hx.1 a (by omega)))
  have hu : evs (vM M2 84) (vM M 84) := vM_fr (fun i hi => by rw [hm.2.1 i (by omega), hx.1 84 (by omega)]) (fun a z0 z1 => (hm.1 a (by omega)).trans (hx.1 a (by omega)))
  refine cpl_E h (oE_s hx hm) ?_ (ev_ok (evs_symm hv) h.1.1) (evs_tr hv (evs_tr h.1.2 (evs_symm hu)))
  rw [hm.1 1 (by omega), hx.1 1 (by omega)]
  exact Int.le_refl _
/-- a refusal on both sides, then what is scratch -/
theorem cpl_rf {M : Mm} (h : cpl M) {k : Nat} (hk : k < 5) : cpl (rfM (rfX M k) k) := by
  obtain ⟨⟨h1, h2⟩, h3, h4, h5, h6⟩ := h
  have ex : ∀ a, a ≠ 66 → a ≠ 100 → (rfM (rfX M k) k).1 a = M.1 a := fun a z0 z1 => by simp [rfM, rfX, en_wI, z0, z1]
  have e2 : (rfM (rfX M k) k).2 = M.2 := rfl
  have hv : ∀ e, e + 16 ≤ 66 → evs (vE (rfM (rfX M k) k) e) (vE M e) := fun e he => vE_fr (fun a z0 z1 => ex a (by omega) (by omega))
  have hu : ∀ b, 84 ≤ b ∧ (b = 84 ∨ b = 158) → evs (vM (rfM (rfX M k) k) b) (vM M b) := fun b hb => vM_fr (fun i _ => by rw [ex b (by omega) (by omega)]) (fun a z0 z1 => ex a (by omega) (by omega))
  refine ⟨⟨ev_ok (evs_symm (hv 1 (by omega))) h1, evs_tr (hv 1 (by omega)) (evs_tr h2 (evs_symm (hu 84 (by omega))))⟩, ?_, ?_, ?_, ?_⟩
  · unfold cI at h3 ⊢
    rw [ex 0 (by decide) (by decide), ex 84 (by decide) (by decide)]
    rcases h3 with h | ⟨z1, z2, z3, z4⟩
    · exact Or.inl h
    · exact Or.inr ⟨z1, z2, ev_ok (evs_symm (hv 17 (by omega))) z3, evs_tr (hv 17 (by omega)) (evs_tr z4 (evs_symm (hu 158 (by omega))))⟩
  · unfold cT at h4 ⊢
    rw [ex 61 (by decide) (by decide), ex 84 (by decide) (by decide), ex 62 (by decide) (by decide), ex 99 (by decide) (by decide)]
    exact h4
  · intro j hj
    have := h5 j hj
    have h5k := h5 k hk
    by_cases hjk : j = k
    · subst hjk
      simp [rfM, rfX, en_wI, h5k]
    · simp [rfM, rfX, en_wI, hjk, this]
  · intro s hs
    have := h6 s hs
    unfold cS1 at this ⊢
    rw [ex 85 (by decide) (by decide), ex 86 (by decide) (by decide), ex 87 (by decide) (by decide), ex 98 (by decide) (by decide), ex 1 (by decide) (by decide), ex (68 + 2 * s) (by omega) (by omega), e2]
    exact this
