/-! learn: the reference, both sides (what k54 lays in the wrong part) -/
theorem PM_learn (hF : freshC) (E : Ev) (M : Mm) (hJ : isM M 84 E) (hg : s_ok E) (bm : Nat) (hbm : (if M.1 84 25 = 0 then 1 else 0) = bm) (x : Int) (t : Int) (hx : -2147483648 ≤ x ∧ x < 2147483648) (ht : -2147483648 ≤ t ∧ t < 2147483648) (hacc : (0 ≤ x ∧ x < E.1 0 2) ∧ (0 ≤ t ∧ t ≤ 1)) : en_Ct 20 bm 219 [.inr (.inr (1, 6, 84)), .inl x, .inl t] M (fun r M' => r = some (.inl (a_learn E x t).2) ∧ bm + bl M' ≤ bl M ∧ mF M M' ∧ isM M' 84 E) := by
  obtain ⟨n0, n1, n2, a0, a1, a2, a3, a4, a5, a6, a7⟩ := hg.1
  have r0 : M.1 84 9 = E.1 0 0 := hJ.1.1
  have r1 : M.1 84 10 = E.1 0 1 := hJ.1.2.1
  have r2 : M.1 84 18 = E.1 0 2 := hJ.1.2.2.1
  refine ct_219 rfl ?_
  refine aw_219_0 ?_
  by_cases c1 : 0 ≤ x ∧ x < E.1 0 2
  · refine ⟨2, 0, by first | decide | omega, by first | decide | omega, en_Ct_t (M_isPerson (M := M) (E := E) hJ hg (x := x) (by omega)) c1 ?_⟩
    refine br_eq_n (by decide) (by decide) (by decide) ?_
    by_cases c3 : 0 ≤ t ∧ t ≤ 1
    · refine ⟨1, 0, by first | decide | omega, by first | decide | omega, en_Ct_t (R_in (en_wr t) 0 1 t 0 1 (wl_wr ⟨by omega, by omega⟩) (wl_of ⟨by omega, by omega⟩) (wl_of ⟨by omega, by omega⟩) _) c3 ?_⟩
      refine br_ne_y (by decide) (by decide) (by decide) ?_
      obtain ⟨p, rfl⟩ := Int.eq_ofNat_of_zero_le (show 0 ≤ x by omega)
      refine aw_219_25 ?_
      refine ⟨8, bm, by first | decide | omega, by first | decide | omega, en_Ct_mono (hbm ▸ hF M) ?_⟩
      rintro _ N ⟨rfl, hN⟩
      obtain ⟨hJN, hev, hg3⟩ := fr_ev hJ hg hN
      refine ⟨14, 0, by first | decide | omega, by first | decide | omega, en_Ct_mono (R_findBest 121 (vM N 121) hg3 p (by have := hev.1 2 (by decide); omega) N (isQ_M isM_self)) ?_⟩
      rintro _ K ⟨rfl, hFT, hQT, w0, w1, w2⟩
      rw [ev_bst hev hg3] at w0 w1 w2
      have hL0 : frL M K := frL_s (frL_P hN) (fun a ha => hFT.1 a (by omega) (by omega) (by omega) (by omega)) (fun a _ => by rw [hFT.2.2])
      refine L_leM hF bm _ E M hg p t (K.1 121 36) (by omega) (fun K2 b m hJK hLK hb2 hmb => ?_) (E.1 0 1).toNat 0 K (-1) 0 (by omega) (isM_fr hJN (fun i _ => by rw [hFT.1 84 (by decide) (by decide) (by omega) (by decide)]) (fun a h0 h1 => hFT.1 a (by omega) (by omega) (by omega) (by omega))) hL0 (Or.inl ⟨rfl, rfl⟩) (by omega)
      have nb := le_b hg (p := p) (by omega) (E.1 0 1).toNat (by omega)
      have wb := (bst_sB hg (p := p)).1
      refine aw_219_143 ?_
      refine br_ne (a := t) (b := 0) (by omega) (by omega) (fun q1 => ?_) (fun q1 => ?_)
      · refine aw_219_152 ?_
        refine br_eq (a := b) (b := (-1)) (by omega) (by omega) (fun q2 => ?_) (fun q2 => ?_)
        · refine aw_219_165 ?_
          refine aw_219_174 ?_
          have ha : a_learn E p t = (0, 0) := by
            unfold a_learn vle
            rw [if_pos (by omega), Int.toNat_natCast]
            refine congrArg (fun z : Int => ((0 : Nat), z)) ?_
            rw [w0] at *
            (repeat' split) <;> omega
          rw [ha]
          obtain ⟨m1, m2⟩ := frL_mF hLK
          exact ⟨rfl, by rw [← hbm]; exact m2, m1, hJK⟩
        · refine br_ge (a := m) (b := K.1 121 36) (by omega) (by omega) (fun q3 => ?_) (fun q3 => ?_)
          · refine aw_219_169 ?_
            refine aw_219_174 ?_
            have ha : a_learn E p t = (0, m - (K.1 121 36)) := by
              unfold a_learn vle
              rw [if_pos (by omega), Int.toNat_natCast]
              refine congrArg (fun z : Int => ((0 : Nat), z)) ?_
              rw [w0] at *
              (repeat' split) <;> omega
            rw [ha]
            obtain ⟨m1, m2⟩ := frL_mF hLK
            exact ⟨rfl, by rw [← hbm]; exact m2, m1, hJK⟩
          · refine aw_219_165 ?_
            refine aw_219_174 ?_
            have ha : a_learn E p t = (0, 0) := by
              unfold a_learn vle
              rw [if_pos (by omega), Int.toNat_natCast]
              refine congrArg (fun z : Int => ((0 : Nat), z)) ?_
              rw [w0] at *
              (repeat' split) <;> omega
            rw [ha]
            obtain ⟨m1, m2⟩ := frL_mF hLK
            exact ⟨rfl, by rw [← hbm]; exact m2, m1, hJK⟩
      · refine aw_219_174 ?_
        have ha : a_learn E p t = (0, b) := by
          unfold a_learn vle
          rw [if_pos (by omega), Int.toNat_natCast]
          refine congrArg (fun z : Int => ((0 : Nat), z)) ?_
          rw [w0] at *
          (repeat' split) <;> omega
        rw [ha]
        obtain ⟨m1, m2⟩ := frL_mF hLK
        exact ⟨rfl, by rw [← hbm]; exact m2, m1, hJK⟩
    · refine ⟨1, 0, by first | decide | omega, by first | decide | omega, en_Ct_f (R_in (en_wr t) 0 1 t 0 1 (wl_wr ⟨by omega, by omega⟩) (wl_of ⟨by omega, by omega⟩) (wl_of ⟨by omega, by omega⟩) _) c3 ?_⟩
      refine br_ne_n (by decide) (by decide) (by decide) ?_
      refine aw_219_18 ?_
      refine ⟨1, 0, by first | decide | omega, by first | decide | omega, en_Ct_eq (R_refM (-2) (by omega) M) ?_⟩
      exfalso
      omega
  · refine ⟨2, 0, by first | decide | omega, by first | decide | omega, en_Ct_f (M_isPerson (M := M) (E := E) hJ hg (x := x) (by omega)) c1 ?_⟩
    refine br_eq_y (by decide) (by decide) (by decide) ?_
    refine aw_219_18 ?_
    refine ⟨1, 0, by first | decide | omega, by first | decide | omega, en_Ct_eq (R_refM (-2) (by omega) M) ?_⟩
    exfalso
    omega
theorem PMr_learn (E : Ev) (M : Mm) (hJ : isM M 84 E) (hg : s_ok E) (x : Int) (t : Int) (hx : -2147483648 ≤ x ∧ x < 2147483648) (ht : -2147483648 ≤ t ∧ t < 2147483648) (hacc : ¬ ((0 ≤ x ∧ x < E.1 0 2) ∧ (0 ≤ t ∧ t ≤ 1))) : en_Ct 20 0 219 [.inr (.inr (1, 6, 84)), .inl x, .inl t] M (fun r M' => r = some (.inl (-2)) ∧ M' = rfM M 0) := by
  obtain ⟨n0, n1, n2, a0, a1, a2, a3, a4, a5, a6, a7⟩ := hg.1
  have r0 : M.1 84 9 = E.1 0 0 := hJ.1.1
  have r1 : M.1 84 10 = E.1 0 1 := hJ.1.2.1
  have r2 : M.1 84 18 = E.1 0 2 := hJ.1.2.2.1
  refine ct_219 rfl ?_
  refine aw_219_0 ?_
  by_cases c1 : 0 ≤ x ∧ x < E.1 0 2
  · refine ⟨2, 0, by first | decide | omega, by first | decide | omega, en_Ct_t (M_isPerson (M := M) (E := E) hJ hg (x := x) (by omega)) c1 ?_⟩
    refine br_eq_n (by decide) (by decide) (by decide) ?_
    by_cases c3 : 0 ≤ t ∧ t ≤ 1
    · refine ⟨1, 0, by first | decide | omega, by first | decide | omega, en_Ct_t (R_in (en_wr t) 0 1 t 0 1 (wl_wr ⟨by omega, by omega⟩) (wl_of ⟨by omega, by omega⟩) (wl_of ⟨by omega, by omega⟩) _) c3 ?_⟩
      refine br_ne_y (by decide) (by decide) (by decide) ?_
      exfalso
      omega
    · refine ⟨1, 0, by first | decide | omega, by first | decide | omega, en_Ct_f (R_in (en_wr t) 0 1 t 0 1 (wl_wr ⟨by omega, by omega⟩) (wl_of ⟨by omega, by omega⟩) (wl_of ⟨by omega, by omega⟩) _) c3 ?_⟩
      refine br_ne_n (by decide) (by decide) (by decide) ?_
      refine aw_219_18 ?_
      refine ⟨1, 0, by first | decide | omega, by first | decide | omega, en_Ct_eq (R_refM (-2) (by omega) M) ?_⟩
      exact ⟨rfl, rfl⟩
  · refine ⟨2, 0, by first | decide | omega, by first | decide | omega, en_Ct_f (M_isPerson (M := M) (E := E) hJ hg (x := x) (by omega)) c1 ?_⟩
    refine br_eq_y (by decide) (by decide) (by decide) ?_
    refine aw_219_18 ?_
    refine ⟨1, 0, by first | decide | omega, by first | decide | omega, en_Ct_eq (R_refM (-2) (by omega) M) ?_⟩
    exact ⟨rfl, rfl⟩
theorem S_learn (hF : freshC) {x t : Int} (hx : -2147483648 ≤ x ∧ x < 2147483648) (ht : -2147483648 ≤ t ∧ t < 2147483648) : sameC 97 219 [.inl x, .inl t] := same_fr (hx := 12) (hm := 20) (f := fun E => a_learn E x t) (by decide) (by decide) (fun E M h1 h2 => PX_learn E M h1 h2 x t hx ht) (fun E M bm h1 h2 h3 h4 => PM_learn hF E M h1 h2 bm h3 x t hx ht (by
    have h4 : (a_learn E x t).1 = 0 := h4
    unfold a_learn at h4
    by_cases z : (0 ≤ x ∧ x < E.1 0 2) ∧ (0 ≤ t ∧ t ≤ 1)
    · exact z
    · rw [if_neg z] at h4; cases h4)) (fun E M h1 h2 h3 => by
    have h3 : (a_learn E x t).1 ≠ 0 := h3
    have hz : ¬ ((0 ≤ x ∧ x < E.1 0 2) ∧ (0 ≤ t ∧ t ≤ 1)) := fun z => h3 (by unfold a_learn; rw [if_pos z])
    have ha : a_learn E x t = (1, -2) := by unfold a_learn; rw [if_neg hz]
    refine en_Ct_mono (PMr_learn E M h1 h2 x t hx ht hz) ?_
    rintro r M' ⟨rfl, rfl⟩
    show _ = some (Sum.inl (a_learn E x t).2) ∧ sM (aM M (a_learn E x t).1) _
    rw [ha]
    exact ⟨rfl, sM_rfl⟩) (fun E F h1 h2 => ea_learn h1 h2) (fun E => by show (a_learn E x t).1 ≤ 5; unfold a_learn; (repeat' split) <;> exact Nat.le_of_ble_eq_true rfl)
