def vo (E : Ev) (p : Nat) (t : Int) : Int := if t = -1 then (bo E p).1 else lfn (bo E p).2 t.toNat
def a_order (E : Ev) (x : Int) (t : Int) : Nat × Int := if (0 ≤ x ∧ x < E.1 0 2) ∧ -1 ≤ t then (if E.1 14 x.toNat ≤ t then (4, -5) else (0, vo E x.toNat t)) else (1, -2)
theorem PX_order (E : Ev) (M : Mm) (hI : isE M 1 E) (hg : s_ok E) (x : Int) (t : Int) (hx : -2147483648 ≤ x ∧ x < 2147483648) (ht : -2147483648 ≤ t ∧ t < 2147483648) : en_Ct 12 0 94 [.inr (.inr (1, 5, 0)), .inl x, .inl t] M (fun r M' => r = some (.inl (a_order E x t).2) ∧ sX (aX M (a_order E x t).1) M') := by
  obtain ⟨n0, n1, n2, a0, a1, a2, a3, a4, a5, a6, a7⟩ := hg.1
  have r0 : M.1 1 0 = E.1 0 0 := r0_I hI 0
  have r1 : M.1 1 1 = E.1 0 1 := r0_I hI 1
  have r2 : M.1 1 2 = E.1 0 2 := r0_I hI 2
  
  have r14x : M.1 15 x.toNat = E.1 14 x.toNat := congrFun (hI.1 14 (by decide)) _
  have s14x : (0 ≤ x ∧ x < E.1 0 2) → 0 ≤ E.1 14 x.toNat ∧ E.1 14 x.toNat ≤ 5 := fun z => (hg.2.2.1 x.toNat (by omega)).1
  refine ct_94 rfl ?_
  refine aw_94_0 ?_
  by_cases c1 : 0 ≤ x ∧ x < E.1 0 2
  · refine ⟨2, 0, by first | decide | omega, by first | decide | omega, en_Ct_t (X_isPerson (M := M) (e := 1) (E := E) hI hg (x := x) (by omega)) c1 ?_⟩
    refine br_eq_n (by decide) (by decide) (by decide) ?_
    refine br_ge (a := t) (b := (-1)) (by omega) (by omega) (fun q3 => ?_) (fun q3 => ?_)
    · refine aw_94_23 ?_
      have s14 := s14x (by omega)
      refine ⟨x.toNat, it_nn (x := x) (by omega), (show x.toNat < 4 by omega), ?_⟩
      refine br_lt (a := t) (b := M.1 15 x.toNat) (by omega) (by omega) (fun q4 => ?_) (fun q4 => ?_)
      · obtain ⟨p, rfl⟩ := Int.eq_ofNat_of_zero_le (show 0 ≤ x by omega)
        have r14 : M.1 15 p = E.1 14 p := congrFun (hI.1 14 (by decide)) p
        have s1 := (hg.2.2.1 p (by omega)).1
        have r14' : M.1 15 ((p : Nat) : Int).toNat = E.1 14 p := r14
        refine aw_94_43 ?_
        refine ⟨6, 0, by first | decide | omega, by first | decide | omega, en_Ct_mono (R_fo E M hI hg p (by omega)) ?_⟩
        rintro _ K ⟨rfl, hsX, h67⟩
        refine br_ne (a := t) (b := (-1)) (by omega) (by omega) (fun q1 => ?_) (fun q1 => ?_)
        · refine aw_94_58 ?_
          refine ⟨t.toNat, it_nn (x := t) (by omega), (show t.toNat < 5 by omega), ?_⟩
          refine aw_94_64 ?_
          have ha : a_order E p t = (0, K.1 67 t.toNat) := by
            unfold a_order vo
            rw [if_pos (by omega), if_neg (by rw [Int.toNat_natCast]; omega), Int.toNat_natCast]
            refine congrArg (fun z : Int => ((0 : Nat), z)) ?_
            rw [if_neg (by omega)]
            exact (h67 t.toNat (by omega)).symm
          rw [ha]
          exact ⟨rfl, hsX⟩
        · refine aw_94_64 ?_
          have ha : a_order E p t = (0, (bo E p).1) := by
            unfold a_order vo
            rw [if_pos (by omega), if_neg (by rw [Int.toNat_natCast]; omega), Int.toNat_natCast]
            refine congrArg (fun z : Int => ((0 : Nat), z)) ?_
            rw [if_pos (by omega)]
          rw [ha]
          exact ⟨rfl, hsX⟩
      · refine ⟨2, 0, by first | decide | omega, by first | decide | omega, en_Ct_eq (R_refX (-5) (by omega) M) ?_⟩
        have ha : a_order E x t = (4, (-5)) := by
          unfold a_order
          repeat first | rw [if_pos (by omega)] | rw [if_neg (by omega)]
          first | done | rfl | (rfl)
        rw [ha]
        exact ⟨rfl, sX_rfl⟩
    · refine aw_94_16 ?_
      refine ⟨2, 0, by first | decide | omega, by first | decide | omega, en_Ct_eq (R_refX (-2) (by omega) M) ?_⟩
      have ha : a_order E x t = (1, (-2)) := by
        unfold a_order
        repeat first | rw [if_pos (by omega)] | rw [if_neg (by omega)]
        first | done | rfl | (rfl)
      rw [ha]
      exact ⟨rfl, sX_rfl⟩
  · refine ⟨2, 0, by first | decide | omega, by first | decide | omega, en_Ct_f (X_isPerson (M := M) (e := 1) (E := E) hI hg (x := x) (by omega)) c1 ?_⟩
    refine br_eq_y (by decide) (by decide) (by decide) ?_
    refine aw_94_16 ?_
    refine ⟨2, 0, by first | decide | omega, by first | decide | omega, en_Ct_eq (R_refX (-2) (by omega) M) ?_⟩
    have ha : a_order E x t = (1, (-2)) := by
      unfold a_order
      repeat first | rw [if_pos (by omega)] | rw [if_neg (by omega)]
      first | done | rfl | (rfl)
    rw [ha]
    exact ⟨rfl, sX_rfl⟩
theorem ea_order {E F : Ev} (h : evs E F) (hg : s_ok E) {x : Int} {t : Int} : a_order E x t = a_order F x t := by
  have hb := hg.1.2.2.1
  have hw := hg.1.2.1
  unfold a_order
  rw [← h.1 2 (by decide)]
  by_cases hz : (0 ≤ x ∧ x < E.1 0 2) ∧ -1 ≤ t
  · rw [if_pos hz, if_pos hz, (h.2.2.2.1 x.toNat (by omega)).1]
    unfold vo
    rw [ev_bo h hg (by omega)]
  · rw [if_neg hz, if_neg hz]
