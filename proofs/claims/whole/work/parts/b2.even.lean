/-! evening -/
def gX (M M' : Mm) : Prop := (∀ a, a = 0 ∨ (17 ≤ a ∧ a < 33) ∨ a = 62 ∨ a = 65 ∨ a = 66 ∨ 68 ≤ a → M'.1 a = M.1 a) ∧ M'.1 61 0 = 0 ∧ ∀ a, a ≠ 64 → M'.2 a = M.2 a
def gM (M M' : Mm) : Prop := (∀ a, a < 84 ∨ (85 ≤ a ∧ a < 101) ∨ 158 ≤ a → M'.1 a = M.1 a) ∧ M'.1 84 7 = 0 ∧ M'.1 84 24 = M.1 84 24 ∧ M'.1 84 25 ≠ 0 ∧ ∀ a, a < 97 ∨ 158 ≤ a → M'.2 a = M.2 a
theorem outW_f {h kk : Nat} {as : List AV} {M : Mm} {R : Option Ev × Nat × Int} (hc : en_Ct h 0 kk as M (fun r M' => outW M M' R r)) (hR : R.1 = none) : en_Ct h 0 kk as M (fun r M' => r = some (.inl 0) ∧ frY M M' ∧ M'.1 61 2 = ((R.2.1 : Nat) : Int)) := by
  refine en_Ct_mono hc ?_
  intro r M' ho
  rcases ho.2.2.2 with ⟨-, z⟩ | ⟨X, z, -⟩
  · exact ⟨z, ho.1, ho.2.2.1⟩
  · rw [hR] at z; cases z
theorem outW_t {h kk : Nat} {as : List AV} {M : Mm} {R : Option Ev × Nat × Int} (hc : en_Ct h 0 kk as M (fun r M' => outW M M' R r)) (hR : ¬ R.1 = none) : en_Ct h 0 kk as M (fun r M' => r = some (.inl 1) ∧ frY M M' ∧ M'.1 61 1 = R.2.2 ∧ ∃ X, R.1 = some X ∧ isE M' 33 X) := by
  refine en_Ct_mono hc ?_
  intro r M' ho
  rcases ho.2.2.2 with ⟨z, -⟩ | ⟨X, z1, z, z2⟩
  · exact absurd z hR
  · exact ⟨z, ho.1, ho.2.1, X, z1, z2⟩
theorem stm_okA {f : Nat → Int} {Z : Nat} {E X : Ev} {n b : Nat} {c : Int} (hg : s_ok E) (hb : b ≤ Z) (h : (rdA f Z n E b c).1 = some X) : s_ok X ∧ E.1 0 1 ≤ X.1 0 1 := by
  have hr := rr_rdA (f := f) (f' := f) (fun _ _ => rfl) n E E b c evs_rfl hg hb
  rcases hr.2 with ⟨z, -⟩ | ⟨X', Y, z1, -, -, z4, z5⟩
  · rw [z] at h; cases h
  · rw [z1] at h
    injection h with e
    rw [← e]
    exact ⟨z4, z5⟩
theorem PX_evening (f : Nat → Int) (Z : Nat) (E : Ev) (M : Mm) (hI : isE M 1 E) (hg : s_ok E) (hT : tpO M 62 f Z) (hz : M.1 61 0 = ((Z : Nat) : Int)) : en_Ct 9 0 83 [.inr (.inr (1, 5, 0))] M (fun r M' => ((rdA f Z (Z + 1) E 0 0).1 = none ∧ r = some (.inl (-20 - (((rdA f Z (Z + 1) E 0 0).2.1 : Nat) : Int))) ∧ gX (rfX M 0) M' ∧ evs (vE M' 1) E) ∨ ∃ X, (rdA f Z (Z + 1) E 0 0).1 = some X ∧ r = some (.inl (rdA f Z (Z + 1) E 0 0).2.2) ∧ gX M M' ∧ evs (vE M' 1) X) := by
  refine ct_83 rfl ?_
  refine aw_83_0 ?_
  refine ⟨1, 0, by first | decide | omega, by first | decide | omega, en_Ct_mono (R_be_33_1 M (fun i hi => by rw [show M.1 9 = E.1 8 from hI.1 8 (by decide)]; exact hg.2.2.2.2 i hi)) ?_⟩
  rintro _ N ⟨rfl, hN⟩
  obtain ⟨hev, hg3, hIN⟩ := th_ev hI hg hN
  have hr := rr_rdA (f := f) (f' := f) (Z := Z) (fun _ _ => rfl) (Z + 1) E (vE N 33) 0 0 (evs_symm hev) hg (Nat.zero_le _)
  have hTN : tpO N 62 f Z := ⟨by rw [hN.2.1 62 (by decide)]; exact hT.1, hT.2⟩
  have hzN : N.1 61 0 = ((Z : Nat) : Int) := by rw [hN.2.1 61 (by decide)]; exact hz
  by_cases y : (rdA f Z (Z + 1) (vE N 33) 0 0).1 = none
  · refine ⟨8, 0, by first | decide | omega, by first | decide | omega, en_Ct_mono (outW_f (C_read f Z (vE N 33) hg3 N hTN hzN isE_self) y) ?_⟩
    rintro _ K ⟨rfl, hF, hs⟩
    refine br_ne_n (by decide) (by decide) (by decide) ?_
    refine ⟨2, 0, by first | decide | omega, by first | decide | omega, en_Ct_eq (R_refX (-2) (by omega) (en_wI K 61 0 0)) ?_⟩
    have hTn : (rdA f Z (Z + 1) E 0 0).1 = none := by
      rcases hr.2 with z | ⟨X, Y, -, z, -⟩
      · exact z.1
      · rw [y] at z; cases z
    have es : (rfX (en_wI K 61 0 0) 0).1 61 2 = (((rdA f Z (Z + 1) E 0 0).2.1 : Nat) : Int) := by
      rw [hr.1]
      exact (show (rfX (en_wI K 61 0 0) 0).1 61 2 = K.1 61 2 from by simp [rfX, en_wI]).trans hs
    refine Or.inl ⟨hTn, congrArg (fun z : Int => some (Sum.inl (-20 - z))) es, ⟨fun a ha => ?_, by simp [rfX, en_wI], fun a ha => ?_⟩, ?_⟩
    · by_cases z : a = 66
      · subst z
        have e66 : K.1 66 = M.1 66 := by rw [hF.1 66 (by decide), hN.2.1 66 (by decide)]
        simp [rfX, en_wI, e66]
      · have e1 : (rfX (en_wI K 61 0 0) 0).1 a = K.1 a := by
          unfold rfX
          rw [wI_ne z, wI_ne (by omega)]
        have e2 : (rfX M 0).1 a = M.1 a := by
          unfold rfX
          rw [wI_ne z]
        exact e1.trans (((hF.1 a (by omega)).trans (hN.2.1 a (by omega))).trans e2.symm)
    · show K.2 a = M.2 a
      rw [hF.2.2 a ha, hN.1]
    · refine evs_tr (vE_fr (M := N) (fun a z0 z1 => ?_)) (isE_evs hIN)
      unfold rfX
      rw [wI_ne (by omega), wI_ne (by omega)]
      exact hF.1 a (by omega)
  · refine ⟨8, 0, by first | decide | omega, by first | decide | omega, en_Ct_mono (outW_t (C_read f Z (vE N 33) hg3 N hTN hzN isE_self) y) ?_⟩
    rintro _ K ⟨rfl, hF, hs, X, hX1, hX2⟩
    obtain ⟨hgX, -⟩ := stm_okA hg3 (Nat.zero_le _) hX1
    refine br_ne_y (by decide) (by decide) (by decide) ?_
    refine aw_83_53 ?_
    refine ⟨1, 0, by first | decide | omega, by first | decide | omega, en_Ct_mono (R_be_1_33 (en_wI K 61 0 0) (fun i hi => by rw [wI_ne (by decide), show K.1 41 = X.1 8 from hX2.1 8 (by decide)]; exact hgX.2.2.2.2 i hi)) ?_⟩
    rintro _ K3 ⟨rfl, hK3⟩
    obtain ⟨Y, hY1, hY2⟩ : ∃ Y, (rdA f Z (Z + 1) E 0 0).1 = some Y ∧ evs X Y := by
      rcases hr.2 with ⟨-, z⟩ | ⟨Y, X', z1, z2, z3, -⟩
      · rw [z] at hX1; cases hX1
      · rw [hX1] at z2
        injection z2 with e
        rw [← e] at z3
        exact ⟨Y, z1, evs_symm z3⟩
    have e61 : K3.1 61 = (en_wI K 61 0 0).1 61 := hK3.2.1 61 (by decide)
    have es : K3.1 61 1 = (rdA f Z (Z + 1) E 0 0).2.2 := by
      rw [hr.1, e61]
      exact (show (en_wI K 61 0 0).1 61 1 = K.1 61 1 from by simp [en_wI]).trans hs
    refine Or.inr ⟨Y, hY1, congrArg (fun z : Int => some (Sum.inl z)) es, ⟨fun a ha => ?_, by rw [e61]; simp [en_wI], fun a ha => ?_⟩, ?_⟩
    · rw [hK3.2.1 a (by omega), wI_ne (by omega), hF.1 a (by omega), hN.2.1 a (by omega)]
    · rw [hK3.1]
      show K.2 a = M.2 a
      rw [hF.2.2 a ha, hN.1]
    · have q1 : evs (vE (en_wI K 61 0 0) 33) X := isE_evs (isE_fr hX2 (fun a z0 z1 => wI_ne (by omega)))
      have q2 := ev_ok (evs_symm q1) hgX
      exact evs_tr (evq_evs hK3.2.2 (fun p hp => by
        rw [(hK3.2.2.2.2.2.1 p hp).1]
        exact (q2.2.2.1 p hp).1.2)) (evs_tr q1 hY2)
