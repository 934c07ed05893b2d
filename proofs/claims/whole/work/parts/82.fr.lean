/-! a frame for calls told at one memory; blocks may be made -/
def mF (M M' : Mm) : Prop := (∀ a, a < 84 ∨ (85 ≤ a ∧ a < 101) ∨ 158 ≤ a → M'.1 a = M.1 a) ∧ (∀ i, i = 7 ∨ i = 24 → M'.1 84 i = M.1 84 i) ∧ ∀ a, a < 97 ∨ 158 ≤ a → M'.2 a = M.2 a
theorem mF_rfl {M : Mm} : mF M M := ⟨fun _ _ => rfl, fun _ _ => rfl, fun _ _ => rfl⟩
theorem mF_tr {M M1 M2 : Mm} (h : mF M M1) (h' : mF M1 M2) : mF M M2 := ⟨fun a ha => (h'.1 a ha).trans (h.1 a ha), fun i hi => (h'.2.1 i hi).trans (h.2.1 i hi), fun a ha => (h'.2.2 a ha).trans (h.2.2 a ha)⟩
theorem mE_mF {M M' : Mm} (h : mE M M') : mF M M' := ⟨h.1, fun i hi => h.2.1 i (by omega), h.2.2⟩
theorem sM_mF {M M' : Mm} (h : sM M M') : mF M M' := ⟨fun a ha => h.1 a (by omega), fun i hi => h.2.1 i (by omega), h.2.2⟩
theorem isM_aM {M : Mm} {E : Ev} {k : Nat} (h : isM M 84 E) : isM (aM M k) 84 E := by
  cases k with
  | zero => exact h
  | succ k => exact isM_fr h (fun i _ => by simp [aM, rfM, en_wI]) (fun a h0 h1 => by simp only [aM, rfM, en_wI]; rw [if_neg (by omega)])
theorem same_upM {kx km hx hm bm : Nat} {as : List AV} {M : Mm} {f : Nat × Int} {u u' v' : Ev} (hc : cpl M) (h60 : hx < 60) (g60 : hm < 60) (hk : f.1 ≤ 5) (hbm : bm ≤ bl M)
    (hX : en_Ct hx 0 kx (.inr (.inr (1, 5, 0)) :: as) M (fun r M' => r = some (.inl f.2) ∧ ((f.1 ≠ 0 ∧ sX (aX M f.1) M') ∨ (f.1 = 0 ∧ xE M M' ∧ isE M' 1 u))))
    (hM : ∀ M1, (∀ a, 84 ≤ a → M1.1 a = M.1 a) → (∀ a, a ≠ 64 → M1.2 a = M.2 a) → en_Ct hm bm km (.inr (.inr (1, 6, 84)) :: as) M1 (fun r M' => r = some (.inl f.2) ∧ bm + bl M' ≤ bl M1 ∧ ((f.1 ≠ 0 ∧ mF (aM M1 f.1) M' ∧ isM M' 84 v') ∨ (f.1 = 0 ∧ mF M1 M' ∧ isM M' 84 u'))))
    (hv : f.1 ≠ 0 → evs (vE M 1) v') (hu : f.1 = 0 → evs u u' ∧ s_ok u ∧ M.1 1 1 ≤ u.1 0 1) :
    ∃ hx, hx < 60 ∧ en_Ct hx 0 kx (.inr (.inr (1, 5, 0)) :: as) M (fun r M1 => ∃ x : Int, r = some (.inl x) ∧ ∃ hm bm, hm < 60 ∧ bm ≤ bl M ∧ en_Ct hm bm km (.inr (.inr (1, 6, 84)) :: as) M1 (fun r2 M2 => r2 = some (.inl x) ∧ cpl M2 ∧ bm + bl M2 ≤ bl M)) := by
  refine ⟨hx, h60, en_Ct_mono hX ?_⟩
  rintro r M1 ⟨rfl, hs⟩
  have h84 : ∀ a, 84 ≤ a → M1.1 a = M.1 a := by
    intro a ha
    rcases hs with ⟨-, hs⟩ | ⟨-, hs, -⟩
    · exact (hs.1 a (by omega)).trans (aX_84 a ha)
    · exact hs.1 a (by omega)
  have h64 : ∀ a, a ≠ 64 → M1.2 a = M.2 a := by
    intro a ha
    rcases hs with ⟨-, hs⟩ | ⟨-, hs, -⟩
    · rw [hs.2.2 a ha]
      cases f.1 <;> rfl
    · exact hs.2.2 a ha
  refine ⟨_, rfl, hm, bm, g60, hbm, en_Ct_mono (hM M1 h84 h64) ?_⟩
  rintro r M2 ⟨rfl, hb, hs2⟩
  have hb1 : bl M1 = bl M := bl_eq (fun i _ => by rw [h84 84 (by omega)])
  refine ⟨rfl, ?_, by omega⟩
  rcases hs with ⟨h0, hs⟩ | ⟨h0, hs, hs'⟩
  · rcases hs2 with ⟨-, hs2, hs2'⟩ | ⟨z, -⟩
    · cases hq : f.1 with
      | zero => exact absurd hq h0
      | succ k =>
        rw [hq] at hs hs2
        have hcN := cpl_rf hc (k := k) (by omega)
        have hsN := sX_rfM (k := k) hs
        have hv1 : evs (vE M2 1) (vE (rfM (rfX M k) k) 1) := vE_fr (fun a z0 z1 => (hs2.1 a (by omega)).trans (hsN.1 a (by omega)))
        have hv2 : evs (vE (rfM (rfX M k) k) 1) (vE M 1) := vE_fr (fun a z0 z1 => by simp only [rfM, rfX, en_wI]; rw [if_neg (by omega), if_neg (by omega)])
        refine cpl_E hcN ⟨fun a ha => (hs2.1 a (by omega)).trans (hsN.1 a (by omega)), by rw [hs2.1 61 (by omega)]; exact hsN.2.1, ⟨by rw [hs2.2.1 7 (by omega)]; exact congrFun (hsN.1 84 (by omega)) 7, by rw [hs2.2.1 24 (by omega)]; exact congrFun (hsN.1 84 (by omega)) 24⟩, fun a ha => (hs2.2.2 a (by omega)).trans (hsN.2.2 a (by omega))⟩ ?_ (ev_ok (evs_symm hv1) hcN.1.1) (evs_tr hv1 (evs_tr hv2 (evs_tr (hv h0) (evs_symm (isM_vM hs2')))))
        have := hv1.1 1 (by decide)
        show (vE (rfM (rfX M k) k) 1).1 0 1 ≤ (vE M2 1).1 0 1
        omega
    · exact absurd z h0
  · rcases hs2 with ⟨z, -⟩ | ⟨-, hs2, hs2'⟩
    · exact absurd h0 z
    · obtain ⟨u1, u2, u3⟩ := hu h0
      have v1 : evs (vE M2 1) u := evs_tr (vE_fr (fun a z0 z1 => hs2.1 a (by omega))) (isE_evs hs')
      refine cpl_E hc ⟨fun a ha => (hs2.1 a (by omega)).trans (hs.1 a (by omega)), by rw [hs2.1 61 (by omega)]; exact hs.2.1, ⟨by rw [hs2.2.1 7 (by omega), h84 84 (by omega)], by rw [hs2.2.1 24 (by omega), h84 84 (by omega)]⟩, fun a ha => (hs2.2.2 a (by omega)).trans (hs.2.2 a (by omega))⟩ ?_ (ev_ok (evs_symm v1) u2) (evs_tr v1 (evs_tr u1 (evs_symm (isM_vM hs2'))))
      have := v1.1 1 (by decide)
      show M.1 1 1 ≤ (vE M2 1).1 0 1
      omega
theorem xE_sX {M M' : Mm} (h : sX M M') : xE M M' := ⟨fun a ha => h.1 a (by omega), h.2.1, h.2.2⟩
theorem bl_mE {M M' : Mm} (h : mE M M') : bl M' = bl M := bl_eq (fun i hi => h.2.1 i (by omega))
theorem bl_sM {M M' : Mm} (h : sM M M') : bl M' = bl M := bl_eq (fun i hi => h.2.1 i (by omega))
theorem bl_aM {M : Mm} {k : Nat} : bl (aM M k) = bl M := by
  cases k with
  | zero => rfl
  | succ k => exact bl_eq (fun i hi => by simp [aM, rfM, en_wI])
/-- a call that changes nothing but the refusals -/
theorem same_ra {kx km hx hm : Nat} {as : List AV} {M : Mm} {f : Nat × Int} (hc : cpl M) (h60 : hx < 60) (g60 : hm < 60) (hk : f.1 ≤ 5)
    (hX : en_Ct hx 0 kx (.inr (.inr (1, 5, 0)) :: as) M (fun r M' => r = some (.inl f.2) ∧ sX (aX M f.1) M'))
    (hM : ∀ M1, (∀ a, 84 ≤ a → M1.1 a = M.1 a) → (∀ a, a ≠ 64 → M1.2 a = M.2 a) → en_Ct hm 0 km (.inr (.inr (1, 6, 84)) :: as) M1 (fun r M' => r = some (.inl f.2) ∧ sM (aM M1 f.1) M')) :
    ∃ hx, hx < 60 ∧ en_Ct hx 0 kx (.inr (.inr (1, 5, 0)) :: as) M (fun r M1 => ∃ x : Int, r = some (.inl x) ∧ ∃ hm bm, hm < 60 ∧ bm ≤ bl M ∧ en_Ct hm bm km (.inr (.inr (1, 6, 84)) :: as) M1 (fun r2 M2 => r2 = some (.inl x) ∧ cpl M2 ∧ bm + bl M2 ≤ bl M)) := by
  refine same_upM (bm := 0) (u := vE M 1) (u' := vM M 84) (v' := vM M 84) hc h60 g60 hk (Nat.zero_le _) (en_Ct_mono hX ?_) (fun M1 h84 h64 => en_Ct_mono (hM M1 h84 h64) ?_) (fun _ => hc.1.2) (fun _ => ⟨hc.1.2, hc.1.1, Int.le_refl _⟩)
  · rintro r M' ⟨h1, h2⟩
    refine ⟨h1, ?_⟩
    by_cases h0 : f.1 = 0
    · rw [h0] at h2
      exact Or.inr ⟨h0, xE_sX h2, isE_sX isE_self h2 (by decide)⟩
    · exact Or.inl ⟨h0, h2⟩
  · rintro r M' ⟨h1, h2⟩
    have hJ : isM M1 84 (vM M 84) := isM_x isM_self h84
    have hJ' : isM M' 84 (vM M 84) := isM_sM (isM_aM hJ) h2
    refine ⟨h1, by rw [bl_sM h2, bl_aM]; omega, ?_⟩
    by_cases h0 : f.1 = 0
    · rw [h0] at h2
      exact Or.inr ⟨h0, sM_mF h2, hJ'⟩
    · exact Or.inl ⟨h0, sM_mF h2, hJ'⟩
