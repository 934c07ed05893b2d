theorem PM_evening (hF : freshC) (f : Nat → Int) (Z : Nat) (E : Ev) (M : Mm) (hJ : isM M 84 E) (hg : s_ok E) (hT : tpO M 99 f Z) (hz : M.1 84 7 = ((Z : Nat) : Int)) (bm : Nat) (hbm : (if M.1 84 25 = 0 then 1 else 0) = bm) : en_Ct 9 bm 185 [.inr (.inr (1, 6, 84))] M (fun r M' => bm + bl M' ≤ bl M ∧ (((rdA f Z (Z + 1) E 0 0).1 = none ∧ r = some (.inl (-20 - (((rdA f Z (Z + 1) E 0 0).2.1 : Nat) : Int))) ∧ gM (rfM M 0) M' ∧ evs (vM M' 84) E) ∨ ∃ X, (rdA f Z (Z + 1) E 0 0).1 = some X ∧ r = some (.inl (rdA f Z (Z + 1) E 0 0).2.2) ∧ gM M M' ∧ isM M' 84 X)) := by
  refine ct_185 rfl ?_
  refine aw_185_0 ?_
  refine ⟨8, bm, by first | decide | omega, by first | decide | omega, en_Ct_mono (hbm ▸ hF M) ?_⟩
  rintro _ N ⟨rfl, hN⟩
  obtain ⟨hJN, hev, hg3⟩ := fr_ev hJ hg hN
  have hTN : tpO N 99 f Z := ⟨by rw [hN.2.2.1 99 (by decide) (by decide)]; exact hT.1, hT.2⟩
  have hzN : N.1 84 7 = ((Z : Nat) : Int) := by rw [hN.2.1 7 (by decide)]; exact hz
  by_cases y : (rdA f Z (Z + 1) E 0 0).1 = none
  · refine ⟨8, 0, by first | decide | omega, by first | decide | omega, en_Ct_mono (outR_f (D_rdA f Z E hg N hTN hzN hJN) y) ?_⟩
    rintro _ K ⟨rfl, hF1, hs⟩
    refine br_ne_n (by decide) (by decide) (by decide) ?_
    refine ⟨3, 0, by first | decide | omega, by first | decide | omega, en_Ct_mono (R_take_84_121 (en_wI K 84 7 0)) ?_⟩
    rintro _ K2 ⟨rfl, hK2⟩
    refine ⟨1, 0, by first | decide | omega, by first | decide | omega, en_Ct_eq (R_refM (-2) (by omega) K2) ?_⟩
    have es : (rfM K2 0).1 84 30 = (((rdA f Z (Z + 1) E 0 0).2.1 : Nat) : Int) := by
      rw [← hs]
      have e1 : (rfM K2 0).1 84 30 = K2.1 84 30 := by simp [rfM, en_wI]
      rw [e1, hK2.2.2.1 30 (by decide) (by decide) (by decide) (by decide), w84_n (by decide)]
    have n84 : ∀ i, i = 24 ∨ i = 25 → (rfM K2 0).1 84 i = N.1 84 i := fun i hi => by
      have e1 : (rfM K2 0).1 84 i = K2.1 84 i := by simp [rfM, en_wI]
      rw [e1, hK2.2.2.1 i (by omega) (by omega) (by omega) (by omega), w84_n (by omega), hF1.2.1 i (by omega)]
    have hbl : bm + bl (rfM K2 0) ≤ bl M := by
      rw [bl_eq (M := N) (fun i hi => n84 i hi), ← hbm, bl_fr hN]
      exact Nat.le_refl _
    refine ⟨hbl, Or.inl ⟨y, congrArg (fun z : Int => some (Sum.inl (-20 - z))) es, ⟨fun a ha => ?_, ?_, ?_, ?_, fun a ha => ?_⟩, ?_⟩⟩
    · have e2 : ∀ b, b ≠ 84 → (b < 101 ∨ 158 ≤ b) → K2.1 b = M.1 b := fun b hb hb2 => by
        rw [hK2.2.1 b hb (by omega), wI_ne hb, hF1.1 b (by omega), hN.2.2.1 b hb (by omega)]
      by_cases z : a = 100
      · subst z
        simp [rfM, en_wI, e2 100 (by decide) (by decide)]
      · have e3 : (rfM K2 0).1 a = K2.1 a := by unfold rfM; rw [wI_ne z]
        have e4 : (rfM M 0).1 a = M.1 a := by unfold rfM; rw [wI_ne z]
        exact e3.trans ((e2 a (by omega) (by omega)).trans e4.symm)
    · show (rfM K2 0).1 84 7 = 0
      have e1 : (rfM K2 0).1 84 7 = K2.1 84 7 := by simp [rfM, en_wI]
      rw [e1, hK2.2.2.1 7 (by decide) (by decide) (by decide) (by decide), w84_s]
    · show (rfM K2 0).1 84 24 = (rfM M 0).1 84 24
      rw [n84 24 (by decide), hN.2.1 24 (by decide)]
      simp [rfM, en_wI]
    · show (rfM K2 0).1 84 25 ≠ 0
      rw [n84 25 (by decide)]
      exact hN.1
    · show K2.2 a = M.2 a
      rw [hK2.1]
      show K.2 a = M.2 a
      rw [hF1.2.2 a (by omega), hN.2.2.2.1 a (by omega)]
    · have q1 : evs (vM (en_wI K 84 7 0) 121) (vM N 121) := vM_fr (fun i hi => by rw [wI_ne (by decide), hF1.1 121 (by decide)]) (fun a z0 z1 => by rw [wI_ne (by omega), hF1.1 a (by omega)])
      have q2 := ev_ok (evs_symm q1) hg3
      have q3 : evs (vM K2 84) (vM (en_wI K 84 7 0) 121) := evq_evs hK2.2.2.2 (fun p hp => by
        rw [(hK2.2.2.2.2.2.2.1 p hp).1]
        exact (q2.2.2.1 p hp).1.2)
      have q4 : evs (vM (rfM K2 0) 84) (vM K2 84) := vM_fr (fun i hi => by simp [rfM, en_wI]) (fun a z0 z1 => by unfold rfM; rw [wI_ne (by omega)])
      exact evs_tr q4 (evs_tr q3 (evs_tr q1 hev))
  · refine ⟨8, 0, by first | decide | omega, by first | decide | omega, en_Ct_mono (outR_t (D_rdA f Z E hg N hTN hzN hJN) y) ?_⟩
    rintro _ K ⟨rfl, hF1, hs, X, hX1, hX2⟩
    refine br_ne_y (by decide) (by decide) (by decide) ?_
    refine aw_185_39 ?_
    have es : (en_wI K 84 7 0).1 84 33 = (rdA f Z (Z + 1) E 0 0).2.2 := by
      rw [w84_n (by decide)]; exact hs
    have n84 : ∀ i, i = 24 ∨ i = 25 → (en_wI K 84 7 0).1 84 i = N.1 84 i := fun i hi => by
      rw [w84_n (by omega), hF1.2.1 i (by omega)]
    have hbl : bm + bl (en_wI K 84 7 0) ≤ bl M := by
      rw [bl_eq (M := N) (fun i hi => n84 i hi), ← hbm, bl_fr hN]
      exact Nat.le_refl _
    refine ⟨hbl, Or.inr ⟨X, hX1, congrArg (fun z : Int => some (Sum.inl z)) es, ⟨fun a ha => ?_, w84_s, ?_, ?_, fun a ha => ?_⟩, ?_⟩⟩
    · rw [wI_ne (by omega), hF1.1 a (by omega), hN.2.2.1 a (by omega) (by omega)]
    · rw [n84 24 (by decide), hN.2.1 24 (by decide)]
    · rw [n84 25 (by decide)]
      exact hN.1
    · show K.2 a = M.2 a
      rw [hF1.2.2 a (by omega), hN.2.2.2.1 a (by omega)]
    · exact isM_fr hX2 (fun i hi => w84_n (by omega)) (fun a z0 z1 => wI_ne (by omega))
theorem S_evening (hF : freshC) : sameC 83 185 [] := by
  intro M hc
  obtain ⟨⟨c1, c2⟩, c3, c4, c5, c6⟩ := id hc
  obtain ⟨⟨t1, t2⟩, t3, t4⟩ := c4
  obtain ⟨Z, hZ⟩ := Int.eq_ofNat_of_zero_le t1
  have hTX : tpO M 62 (M.1 62) Z := ⟨rfl, by omega, fun i hi => (t4 i (by omega)).2⟩
  have hf : ∀ i, i < Z → M.1 62 i = M.1 99 i := fun i hi => (t4 i (by omega)).1
  have hg := ev_ok c2 c1
  have hr := rr_rdA (f := M.1 62) (f' := M.1 99) (Z := Z) hf (Z + 1) (vE M 1) (vM M 84) 0 0 c2 c1 (Nat.zero_le _)
  have hw0 : cpl (en_wI (en_wI M 61 0 0) 84 7 0) := cpl_T hc (fun a z1 z2 z3 z4 => by simp [en_wI, z1, z3]) rfl (fun i hi => by simp [en_wI, hi]) ⟨by simp [en_wI], by simp [en_wI], fun i hi => by
    simp [en_wI] at hi
    omega⟩
  refine ⟨9, by decide, en_Ct_mono (PX_evening (M.1 62) Z (vE M 1) M isE_self c1 hTX hZ) ?_⟩
  intro r M1 hs
  have h84 : ∀ a, 84 ≤ a → M1.1 a = M.1 a := by
    intro a ha
    rcases hs with ⟨-, -, g, -⟩ | ⟨X, -, -, g, -⟩
    · rw [g.1 a (by omega)]
      unfold rfX
      rw [wI_ne (by omega)]
    · exact g.1 a (by omega)
  have h64 : ∀ a, a ≠ 64 → M1.2 a = M.2 a := by
    intro a ha
    rcases hs with ⟨-, -, g, -⟩ | ⟨X, -, -, g, -⟩
    · exact g.2.2 a ha
    · exact g.2.2 a ha
  have hJ1 : isM M1 84 (vM M 84) := isM_x isM_self h84
  have hTM : tpO M1 99 (M.1 99) Z := ⟨h84 99 (by decide), by omega, fun i hi => by rw [← hf i hi]; exact (t4 i (by omega)).2⟩
  have hz1 : M1.1 84 7 = ((Z : Nat) : Int) := by rw [h84 84 (by decide), t3]; exact hZ
  have hM := PM_evening hF (M.1 99) Z (vM M 84) M1 hJ1 hg hTM hz1 (if M.1 84 25 = 0 then 1 else 0) (by rw [h84 84 (by decide)])
  have hb1 : bl M1 = bl M := bl_eq (fun i _ => by rw [h84 84 (by omega)])
  rcases hs with ⟨s1, rfl, g, s4⟩ | ⟨X, s1, rfl, g, s4⟩
  · refine ⟨_, rfl, 9, _, by decide, bl25 M, en_Ct_mono hM ?_⟩
    rintro r M2 ⟨hb, hs2⟩
    have hn2 : (rdA (M.1 99) Z (Z + 1) (vM M 84) 0 0).1 = none := by
      rcases hr.2 with z | ⟨X, Y, z, -⟩
      · exact z.2
      · rw [s1] at z; cases z
    rcases hs2 with ⟨-, rfl, k1, k2⟩ | ⟨X, z, -⟩
    · refine ⟨by rw [hr.1], ?_, by omega⟩
      have hcN := cpl_rf hw0 (k := 0) (by decide)
      have f1 : ∀ a, a ≠ 61 → a ≠ 66 → a ≠ 84 → a ≠ 100 → (rfM (rfX (en_wI (en_wI M 61 0 0) 84 7 0) 0) 0).1 a = M.1 a := fun a z1 z2 z3 z4 => by
        unfold rfM rfX
        rw [wI_ne z4, wI_ne z2, wI_ne z3, wI_ne z1]
      have m1 : ∀ a, a ≠ 66 → a = 0 ∨ (17 ≤ a ∧ a < 33) ∨ a = 62 ∨ 68 ≤ a → M1.1 a = M.1 a := fun a z1 z2 => by
        rw [g.1 a (by omega)]
        unfold rfX
        rw [wI_ne z1]
      have m2 : ∀ a, a ≠ 100 → a < 84 ∨ (85 ≤ a ∧ a < 101) ∨ 158 ≤ a → M2.1 a = M1.1 a := fun a z1 z2 => by
        rw [k1.1 a z2]
        unfold rfM
        rw [wI_ne z1]
      have v1 : evs (vE M2 1) (vE M 1) := evs_tr (vE_fr (fun a z0 z1 => m2 a (by omega) (by omega))) s4
      have v2 : evs (vE (rfM (rfX (en_wI (en_wI M 61 0 0) 84 7 0) 0) 0) 1) (vE M 1) := vE_fr (fun a z0 z1 => f1 a (by omega) (by omega) (by omega) (by omega))
      refine cpl_E hcN ⟨fun a ha => ?_, ?_, ⟨?_, ?_⟩, fun a ha => ?_⟩ ?_ (ev_ok (evs_symm v1) c1) (evs_tr v1 (evs_tr c2 (evs_symm k2)))
      · by_cases z : a = 66
        · subst z
          rw [m2 66 (by decide) (by decide), g.1 66 (by decide)]
          simp [rfM, rfX, en_wI]
        · by_cases z2 : a = 100
          · subst z2
            rw [k1.1 100 (by decide)]
            have e100 : M1.1 100 = M.1 100 := h84 100 (by decide)
            simp [rfM, rfX, en_wI, e100]
          · rw [m2 a z2 (by omega), m1 a z (by omega), f1 a (by omega) z (by omega) z2]
      · rw [m2 61 (by decide) (by decide), g.2.1]
        simp [rfM, rfX, en_wI]
      · rw [k1.2.1]
        simp [rfM, rfX, en_wI]
      · rw [k1.2.2.1]
        have e24 : M1.1 84 24 = M.1 84 24 := by rw [h84 84 (by decide)]
        simp [rfM, rfX, en_wI, e24]
      · rw [k1.2.2.2.2 a (by omega)]
        show M1.2 a = M.2 a
        exact h64 a (by omega)
      · have a1 := v1.1 1 (by decide)
        have a2 := v2.1 1 (by decide)
        show (vE (rfM (rfX (en_wI (en_wI M 61 0 0) 84 7 0) 0) 0) 1).1 0 1 ≤ (vE M2 1).1 0 1
        omega
    · rw [hn2] at z; cases z
  · refine ⟨_, rfl, 9, _, by decide, bl25 M, en_Ct_mono hM ?_⟩
    rintro r M2 ⟨hb, hs2⟩
    obtain ⟨Y, hY1, hXY, gX1, gX2⟩ : ∃ Y, (rdA (M.1 99) Z (Z + 1) (vM M 84) 0 0).1 = some Y ∧ evs X Y ∧ s_ok X ∧ (vE M 1).1 0 1 ≤ X.1 0 1 := by
      rcases hr.2 with ⟨z, -⟩ | ⟨X', Y, z1, z2, z3, z4, z5⟩
      · rw [s1] at z; cases z
      · rw [s1] at z1
        injection z1 with e
        subst e
        exact ⟨Y, z2, z3, z4, z5⟩
    rcases hs2 with ⟨z, -⟩ | ⟨Y', z, rfl, k1, k2⟩
    · rw [hY1] at z; cases z
    · have e : Y' = Y := by
        rw [hY1] at z
        injection z with e
        exact e.symm
      subst e
      refine ⟨by rw [hr.1], ?_, by omega⟩
      have v1 : evs (vE M2 1) X := evs_tr (vE_fr (fun a z0 z1 => k1.1 a (by omega))) s4
      refine cpl_E hw0 ⟨fun a ha => ?_, ?_, ⟨?_, ?_⟩, fun a ha => ?_⟩ ?_ (ev_ok (evs_symm v1) gX1) (evs_tr v1 (evs_tr hXY (evs_symm (isM_vM k2))))
      · rw [k1.1 a (by omega), g.1 a (by omega), wI_ne (by omega), wI_ne (by omega)]
      · rw [k1.1 61 (by decide), g.2.1]
        simp [en_wI]
      · rw [k1.2.1, w84_s]
      · rw [k1.2.2.1, h84 84 (by decide)]
        simp [en_wI]
      · rw [k1.2.2.2.2 a (by omega)]
        show M1.2 a = M.2 a
        exact h64 a (by omega)
      · have a1 := v1.1 1 (by decide)
        have a2 : (en_wI (en_wI M 61 0 0) 84 7 0).1 1 1 = M.1 1 1 := by rw [wI_ne (by decide), wI_ne (by decide)]
        rw [a2]
        show (vE M 1).1 0 1 ≤ (vE M2 1).1 0 1
        omega
