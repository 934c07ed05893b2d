def addWM (M : Mm) (k l c s a : Int) : Mm := en_wI (en_wI (en_wI (en_wI (en_wI (en_wI (en_wI (en_wI M 101 (M.1 84 10).toNat k) 102 (M.1 84 10).toNat l) 103 (M.1 84 10).toNat c) 104 (M.1 84 10).toNat s) 105 (M.1 84 10).toNat a) 106 (M.1 84 10).toNat 0) 107 (M.1 84 10).toNat 0) 84 10 (M.1 84 10 + 1)
def addPM (M : Mm) : Mm := en_wI (en_wI (en_wI M 113 (M.1 84 18).toNat 0) 114 (M.1 84 18).toNat 0) 84 18 (M.1 84 18 + 1)
theorem R_addPersonM (M : Mm) (h0 : 0 ≤ M.1 84 18) (h4 : M.1 84 18 < 4) : en_Ct 1 0 159 [.inr (.inr (1, 6, 84))] M (fun r M' => r = none ∧ M' = addPM M) := by
  refine ct_159 rfl ?_
  refine aw_159_0 ?_
  refine ⟨(M.1 84 18).toNat, it_nn (x := M.1 84 18) (by omega), (show (M.1 84 18).toNat < 4 by omega), ?_⟩
  refine ⟨(M.1 84 18).toNat, it_nn (x := M.1 84 18) (by omega), (show (M.1 84 18).toNat < 4 by omega), ?_⟩
  exact ⟨rfl, rfl⟩
theorem R_addWordM (k l c s a : Int) (M : Mm) (h0 : 0 ≤ M.1 84 10) (h4 : M.1 84 10 < 24) : en_Ct 1 0 157 [.inr (.inr (1, 6, 84)), .inl k, .inl l, .inl c, .inl s, .inl a] M (fun r M' => r = none ∧ M' = addWM M k l c s a) := by
  refine ct_157 rfl ?_
  refine aw_157_0 ?_
  refine ⟨(M.1 84 10).toNat, it_nn (x := M.1 84 10) (by omega), (show (M.1 84 10).toNat < 24 by omega), ?_⟩
  refine ⟨(M.1 84 10).toNat, it_nn (x := M.1 84 10) (by omega), (show (M.1 84 10).toNat < 24 by omega), ?_⟩
  refine ⟨(M.1 84 10).toNat, it_nn (x := M.1 84 10) (by omega), (show (M.1 84 10).toNat < 24 by omega), ?_⟩
  refine ⟨(M.1 84 10).toNat, it_nn (x := M.1 84 10) (by omega), (show (M.1 84 10).toNat < 24 by omega), ?_⟩
  refine ⟨(M.1 84 10).toNat, it_nn (x := M.1 84 10) (by omega), (show (M.1 84 10).toNat < 24 by omega), ?_⟩
  refine ⟨(M.1 84 10).toNat, it_nn (x := M.1 84 10) (by omega), (show (M.1 84 10).toNat < 24 by omega), ?_⟩
  refine ⟨(M.1 84 10).toNat, it_nn (x := M.1 84 10) (by omega), (show (M.1 84 10).toNat < 24 by omega), ?_⟩
  exact ⟨rfl, rfl⟩
def a_person (E : Ev)  : Nat × Int := if E.1 0 2 < 4 then (0, E.1 0 2) else (5, -6)
def u_person (E : Ev)  : Ev := upr (upr (upr E 14 (E.1 0 2).toNat 0) 15 (E.1 0 2).toNat 0) 0 2 (E.1 0 2 + 1)
theorem PX_person (E : Ev) (M : Mm) (hI : isE M 1 E) (hg : s_ok E)    : en_Ct 9 0 77 [.inr (.inr (1, 5, 0))] M (fun r M' => r = some (.inl (a_person E ).2) ∧ (((a_person E ).1 ≠ 0 ∧ sX (aX M (a_person E ).1) M') ∨ ((a_person E ).1 = 0 ∧ xE M M' ∧ isE M' 1 (u_person E )))) := by
  obtain ⟨n0, n1, n2, a0, a1, a2, a3, a4, a5, a6, a7⟩ := hg.1
  have r0 : M.1 1 0 = E.1 0 0 := r0_I hI 0
  have r1 : M.1 1 1 = E.1 0 1 := r0_I hI 1
  have r2 : M.1 1 2 = E.1 0 2 := r0_I hI 2
  refine ct_77 rfl ?_
  refine aw_77_0 ?_
  by_cases c1 : M.1 1 2 < 4
  · refine ⟨1, 0, by first | decide | omega, by first | decide | omega, en_Ct_t (R_hasRoomP 1 _ (tr_num hI hg.1)) c1 ?_⟩
    refine br_eq_n (by decide) (by decide) (by decide) ?_
    refine ⟨1, 0, by first | decide | omega, by first | decide | omega, en_Ct_eq (R_addPerson 1 M (tr_num hI hg.1) (by omega)) ?_⟩
    refine aw_77_26 ?_
    have ha : a_person E  = (0, M.1 1 2) := by
      unfold a_person
      repeat first | rw [if_pos (by omega)] | rw [if_neg (by omega)]
      first | done | rfl | (rw [r2])
    rw [ha]
    refine ⟨rfl, Or.inr ⟨rfl, ?_⟩⟩
    refine ⟨xE_w (xE_w (xE_w xE_rfl (by decide)) (by decide)) (by decide), ?_⟩
    unfold u_person
    rw [← r2]
    exact isE_w (isE_w (isE_w hI (r := 14) (by decide) _ _) (r := 15) (by decide) _ _) (r := 0) (by decide) 2 _
  · refine ⟨1, 0, by first | decide | omega, by first | decide | omega, en_Ct_f (R_hasRoomP 1 _ (tr_num hI hg.1)) c1 ?_⟩
    refine br_eq_y (by decide) (by decide) (by decide) ?_
    refine aw_77_20 ?_
    refine ⟨2, 0, by first | decide | omega, by first | decide | omega, en_Ct_eq (R_refX (-6) (by omega) M) ?_⟩
    refine aw_77_26 ?_
    have ha : a_person E  = (5, (-6)) := by
      unfold a_person
      repeat first | rw [if_pos (by omega)] | rw [if_neg (by omega)]
      first | done | rfl | (rw [r2])
    rw [ha]
    exact ⟨rfl, Or.inl ⟨by decide, sX_rfl⟩⟩
theorem PM_person (E : Ev) (M : Mm) (hJ : isM M 84 E) (hg : s_ok E)    : en_Ct 9 0 160 [.inr (.inr (1, 6, 84))] M (fun r M' => r = some (.inl (a_person E ).2) ∧ (((a_person E ).1 ≠ 0 ∧ sM (aM M (a_person E ).1) M') ∨ ((a_person E ).1 = 0 ∧ mE M M' ∧ isM M' 84 (u_person E )))) := by
  obtain ⟨n0, n1, n2, a0, a1, a2, a3, a4, a5, a6, a7⟩ := hg.1
  have r0 : M.1 84 9 = E.1 0 0 := hJ.1.1
  have r1 : M.1 84 10 = E.1 0 1 := hJ.1.2.1
  have r2 : M.1 84 18 = E.1 0 2 := hJ.1.2.2.1
  refine ct_160 rfl ?_
  refine aw_160_0 ?_
  refine br_ne (a := M.1 84 18) (b := 4) (by omega) (by omega) (fun q1 => ?_) (fun q1 => ?_)
  · refine aw_160_15 ?_
    refine ⟨1, 0, by first | decide | omega, by first | decide | omega, en_Ct_eq (R_addPersonM M (by omega) (by omega)) ?_⟩
    have ha : a_person E  = (0, ((addPM M).1 84 18) - 1) := by
      unfold a_person
      repeat first | rw [if_pos (by omega)] | rw [if_neg (by omega)]
      first | done | rfl | (exact congrArg (fun z : Int => (0, z)) (by rw [← r2]; show M.1 84 18 = M.1 84 18 + 1 - 1; omega))
    rw [ha]
    refine ⟨rfl, Or.inr ⟨rfl, ?_⟩⟩
    refine ⟨mE_w0 (mE_w (mE_w mE_rfl (by decide)) (by decide)) (by decide), ?_⟩
    unfold u_person
    rw [← r2]
    exact isM_w0 (isM_w (isM_w hJ (a := 113) (r := 14) (by decide) _ _) (a := 114) (r := 15) (by decide) _ _) (by decide) _
  · refine ⟨1, 0, by first | decide | omega, by first | decide | omega, en_Ct_eq (R_refM (-6) (by omega) M) ?_⟩
    have ha : a_person E  = (5, (-6)) := by
      unfold a_person
      repeat first | rw [if_pos (by omega)] | rw [if_neg (by omega)]
      first | done | rfl | (exact congrArg (fun z : Int => (0, z)) (by rw [← r2]; show M.1 84 18 = M.1 84 18 + 1 - 1; omega))
    rw [ha]
    exact ⟨rfl, Or.inl ⟨by decide, sM_rfl⟩⟩
theorem ea_person {E F : Ev} (h : evs E F) (hg : s_ok E)  : a_person E  = a_person F  := by
  have hb := hg.1.2.2.1
  have hw := hg.1.2.1
  unfold a_person
  rw [h.1 2 (by decide)]
theorem eu_person {E F : Ev} (h : evs E F) (hg : s_ok E)   (h0 : (a_person E ).1 = 0) : evs (u_person E ) (u_person F ) ∧ s_ok (u_person E ) ∧ E.1 0 1 ≤ (u_person E ).1 0 1 := by
  have hb := hg.1.2.2.1
  have hw := hg.1.2.1
  have hc : E.1 0 2 < 4 := by
    by_cases z : E.1 0 2 < 4
    · exact z
    · unfold a_person at h0
      rw [if_neg z] at h0
      cases h0
  have hs := (hg.2.2.1 (E.1 0 2).toNat (by omega)).1
  unfold u_person
  have g1 := ok_up (r := 14) (i := (E.1 0 2).toNat) (v := 0) hg (num_n hg.1 (by omega)) (wok_n hg.2.1 (by omega)) (by omega) (by decide) (by omega) (by omega)
  have g2 := ok_up (r := 15) (i := (E.1 0 2).toNat) (v := 0) g1 (num_n g1.1 (by omega)) (wok_n g1.2.1 (by omega)) (by omega) (by decide) (by omega) (by omega)
  refine ⟨?_, ok_up g2 ?_ (wok_n g2.2.1 (by omega)) (by omega) (by decide) (by omega) (by omega), by rw [upr_n (by omega), upr_n (by omega), upr_n (by omega)]; exact Int.le_refl _⟩
  · rw [← h.1 2 (by decide)]
    exact ev_upr (ev_upr (ev_up14 h (by omega)) (by decide) _) (by decide) _
  · have hn := hg.1
    unfold s_num at hn ⊢
    rw [upr_s]
    simp only [upr] at hn ⊢
    simp
    omega
theorem S_person   : sameC 77 160 [] := same_up (f := fun E => a_person E ) (u := fun E => u_person E ) (by decide) (by decide) (fun E M h1 h2 => PX_person E M h1 h2   ) (fun E M h1 h2 => PM_person E M h1 h2   ) (fun E F h1 h2 => ea_person h1 h2) (fun E => by show (a_person E ).1 ≤ 5; unfold a_person; (repeat' split) <;> exact Nat.le_of_ble_eq_true rfl) (fun E F h1 h2 h3 => eu_person h1 h2  h3)
