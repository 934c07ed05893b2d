/-! image; what a fresh copy is (its making by the machine comes later) -/
def frP (M M' : Mm) : Prop := M'.1 84 25 ≠ 0 ∧ (∀ i, i ≠ 25 → M'.1 84 i = M.1 84 i) ∧ (∀ a, a ≠ 84 → (a < 121 ∨ 158 ≤ a) → M'.1 a = M.1 a) ∧ (∀ a, a < 121 ∨ 158 ≤ a → M'.2 a = M.2 a) ∧ evq (vM M' 121) (vM M 84)
def freshC : Prop := ∀ M : Mm, en_Ct 8 (if M.1 84 25 = 0 then 1 else 0) 237 [.inr (.inr (1, 6, 84))] M (fun r M' => r = some (.inr (.inr (1, 6, 121))) ∧ frP M M')
def imP (M M' : Mm) : Prop := M'.1 84 24 ≠ 0 ∧ (∀ i, i ≠ 24 → M'.1 84 i = M.1 84 i) ∧ (∀ a, a ≠ 84 → a < 158 → M'.1 a = M.1 a) ∧ (∀ a, a < 158 → M'.2 a = M.2 a) ∧ evq (vM M' 158) (vM M 84)
def imageC : Prop := ∀ M : Mm, en_Ct 8 (if M.1 84 24 = 0 then 1 else 0) 240 [.inr (.inr (1, 6, 84))] M (fun r M' => r = some (.inl 1) ∧ imP M M')
theorem bl_fr {M M' : Mm} (h : frP M M') : (if M.1 84 25 = 0 then 1 else 0) + bl M' = bl M := by
  unfold bl
  rw [h.2.1 24 (by decide), if_neg h.1]
  omega
theorem bl_im {M M' : Mm} (h : imP M M') : (if M.1 84 24 = 0 then 1 else 0) + bl M' = bl M := by
  unfold bl
  rw [h.2.1 25 (by decide), if_neg h.1]
  omega
theorem bl25 (M : Mm) : (if M.1 84 25 = 0 then 1 else 0) ≤ bl M := by unfold bl; omega
theorem bl24 (M : Mm) : (if M.1 84 24 = 0 then 1 else 0) ≤ bl M := by unfold bl; omega
theorem R_imageX (M : Mm) (hu : ∀ i : Nat, i < 24 → M.1 9 i = 0 ∨ M.1 9 i = 1) : en_Ct 9 0 116 [.inr (.inr (1, 5, 0))] M (fun r M' => r = some (.inl 1) ∧ ∃ N : Mm, cpd M N 17 1 ∧ M' = en_wI N 0 9 1) := by
  refine ct_116 rfl ?_
  refine aw_116_0 ?_
  refine ⟨1, 0, by first | decide | omega, by first | decide | omega, en_Ct_mono (R_be_17_1 M hu) ?_⟩
  rintro _ N ⟨rfl, hN⟩
  refine ⟨Or.inr rfl, ?_⟩
  exact ⟨rfl, N, hN, rfl⟩
theorem S_image (hIm : imageC) : sameC 116 240 [] := by
  intro M hc
  obtain ⟨⟨c1, c2⟩, c3, c4, c5, c6⟩ := id hc
  refine ⟨9, by decide, en_Ct_mono (R_imageX M (fun i hi => c1.2.2.2.2 i hi)) ?_⟩
  rintro r M1 ⟨rfl, N, hN, rfl⟩
  have e1 : ∀ a, a ≠ 0 → (a < 17 ∨ 33 ≤ a) → (en_wI N 0 9 1).1 a = M.1 a := fun a h0 h1 => by rw [wI_ne h0, hN.2.1 a (by omega)]
  have eL : (en_wI N 0 9 1).2 = M.2 := hN.1
  have b24 : (if (en_wI N 0 9 1).1 84 24 = 0 then 1 else 0) = (if M.1 84 24 = 0 then 1 else 0) := by rw [e1 84 (by decide) (by decide)]
  have hblM : bl (en_wI N 0 9 1) = bl M := bl_eq (fun i _ => by rw [e1 84 (by decide) (by decide)])
  refine ⟨_, rfl, 8, _, by decide, ?_, en_Ct_mono (hIm (en_wI N 0 9 1)) ?_⟩
  · rw [← hblM]; exact bl24 _
  rintro r M2 ⟨rfl, hi⟩
  have hb := bl_im hi
  refine ⟨rfl, ?_, by omega⟩
  have m : ∀ a, a ≠ 84 → a ≠ 0 → (a < 17 ∨ 33 ≤ a) → a < 158 → M2.1 a = M.1 a := fun a h0 h1 h2 h3 => by rw [hi.2.2.1 a h0 h3, e1 a h1 h2]
  have m84 : ∀ i, i ≠ 24 → M2.1 84 i = M.1 84 i := fun i h => by rw [hi.2.1 i h, e1 84 (by decide) (by decide)]
  have eE : evs (vE M2 1) (vE M 1) := vE_fr (fun a h0 h1 => m a (by omega) (by omega) (by omega) (by omega))
  have eR : evs (vM M2 84) (vM M 84) := vM_fr (fun i hi => m84 i (by omega)) (fun a h0 h1 => m a (by omega) (by omega) (by omega) (by omega))
  have eN1 : evs (vE N 17) (vE M 1) := evq_evs hN.2.2 (fun p hp => by
    rw [(hN.2.2.2.2.2.1 p hp).1]
    exact (c1.2.2.1 p hp).1.2)
  have e17 : evs (vE M2 17) (vE N 17) := vE_fr (fun a h0 h1 => by rw [hi.2.2.1 a (by omega) (by omega), wI_ne (by omega)])
  have vN : evs (vM (en_wI N 0 9 1) 84) (vM M 84) := vM_fr (fun i _ => by rw [e1 84 (by decide) (by decide)]) (fun a h0 h1 => e1 a (by omega) (by omega))
  have g84 := ev_ok c2 c1
  have eK : evs (vM M2 158) (vM (en_wI N 0 9 1) 84) := evq_evs hi.2.2.2.2 (fun p hp => by
    rw [(hi.2.2.2.2.2.2.2.1 p hp).1]
    exact ((ev_ok (evs_symm vN) g84).2.2.1 p hp).1.2)
  refine ⟨⟨ev_ok (evs_symm eE) c1, evs_tr eE (evs_tr c2 (evs_symm eR))⟩, Or.inr ⟨?_, hi.1, ev_ok (evs_symm (evs_tr e17 eN1)) c1, evs_tr e17 (evs_tr eN1 (evs_tr c2 (evs_tr (evs_symm vN) (evs_symm eK))))⟩, ?_, ?_, ?_⟩
  · rw [hi.2.2.1 0 (by decide) (by decide)]
    simp [en_wI]
  · unfold cT at c4 ⊢
    rw [m 61 (by decide) (by decide) (by decide) (by decide), m 62 (by decide) (by decide) (by decide) (by decide), m84 7 (by decide), m 99 (by decide) (by decide) (by decide) (by decide)]
    exact c4
  · unfold cR at c5 ⊢
    rw [m 66 (by decide) (by decide) (by decide) (by decide), m 100 (by decide) (by decide) (by decide) (by decide)]
    exact c5
  · intro s hs
    have hM := c6 s hs
    unfold cS1 at hM ⊢
    rw [m 85 (by decide) (by decide) (by decide) (by decide), m 86 (by decide) (by decide) (by decide) (by decide), m 87 (by decide) (by decide) (by decide) (by decide), m 98 (by decide) (by decide) (by decide) (by decide), m 1 (by decide) (by decide) (by decide) (by decide), m (68 + 2 * s) (by omega) (by omega) (by omega) (by omega), hi.2.2.2.1 (68 + 2 * s + 1) (by omega), hi.2.2.2.1 (89 + 1 * s) (by omega), eL]
    exact hM
