def a_call (E : Ev)  : Nat × Int := if E.1 0 2 = 0 then (4, -5) else (0, s_call E)
theorem PX_call (E : Ev) (M : Mm) (hI : isE M 1 E) (hg : s_ok E)   : en_Ct 9 0 87 [.inr (.inr (1, 5, 0))] M (fun r M' => r = some (.inl (a_call E ).2) ∧ sX (aX M (a_call E ).1) M') := by
  obtain ⟨n0, n1, n2, a0, a1, a2, a3, a4, a5, a6, a7⟩ := hg.1
  have r0 : M.1 1 0 = E.1 0 0 := r0_I hI 0
  have r1 : M.1 1 1 = E.1 0 1 := r0_I hI 1
  have r2 : M.1 1 2 = E.1 0 2 := r0_I hI 2
  refine ct_87 rfl ?_
  refine aw_87_0 ?_
  refine br_ne (a := M.1 1 2) (b := 0) (by omega) (by omega) (fun q1 => ?_) (fun q1 => ?_)
  · refine aw_87_17 ?_
    refine ⟨4, 0, by first | decide | omega, by first | decide | omega, en_Ct_mono (R_reckon 1 E M hI hg (by omega)) ?_⟩
    rintro _ K2 ⟨rfl, hf, hO⟩
    replace hI := isE_o hI hf (Or.inl (by omega))
    have ha : a_call E  = (0, K2.1 49 0) := by
      unfold a_call
      repeat first | rw [if_pos (by omega)] | rw [if_neg (by omega)]
      first | done | rfl | (rw [hO.1])
    rw [ha]
    exact ⟨rfl, sX_fr hf (by decide) (by decide)⟩
  · refine ⟨2, 0, by first | decide | omega, by first | decide | omega, en_Ct_eq (R_refX (-5) (by omega) M) ?_⟩
    have ha : a_call E  = (4, (-5)) := by
      unfold a_call
      repeat first | rw [if_pos (by omega)] | rw [if_neg (by omega)]
      first | done | rfl | (rw [hO.1])
    rw [ha]
    exact ⟨rfl, sX_rfl⟩
theorem PM_call (E : Ev) (M : Mm) (hJ : isM M 84 E) (hg : s_ok E)   : en_Ct 9 0 194 [.inr (.inr (1, 6, 84))] M (fun r M' => r = some (.inl (a_call E ).2) ∧ sM (aM M (a_call E ).1) M') := by
  obtain ⟨n0, n1, n2, a0, a1, a2, a3, a4, a5, a6, a7⟩ := hg.1
  have r0 : M.1 84 9 = E.1 0 0 := hJ.1.1
  have r1 : M.1 84 10 = E.1 0 1 := hJ.1.2.1
  have r2 : M.1 84 18 = E.1 0 2 := hJ.1.2.2.1
  refine ct_194 rfl ?_
  refine aw_194_0 ?_
  refine br_ne (a := M.1 84 18) (b := 0) (by omega) (by omega) (fun q1 => ?_) (fun q1 => ?_)
  · refine aw_194_16 ?_
    refine ⟨3, 0, by first | decide | omega, by first | decide | omega, en_Ct_eq (R_callNow 84 E M hJ hg) ?_⟩
    have kb2 := call_b hg
    refine aw_194_20 ?_
    have ha : a_call E  = (0, s_call E) := by
      unfold a_call
      repeat first | rw [if_pos (by omega)] | rw [if_neg (by omega)]
      first | done | rfl | (rfl)
    rw [ha]
    exact ⟨rfl, sM_rfl⟩
  · refine ⟨1, 0, by first | decide | omega, by first | decide | omega, en_Ct_eq (R_refM (-5) (by omega) M) ?_⟩
    refine aw_194_20 ?_
    have ha : a_call E  = (4, (-5)) := by
      unfold a_call
      repeat first | rw [if_pos (by omega)] | rw [if_neg (by omega)]
      first | done | rfl | (rfl)
    rw [ha]
    exact ⟨rfl, sM_rfl⟩
theorem ea_call {E F : Ev} (h : evs E F) (hg : s_ok E)  : a_call E  = a_call F  := by
  have hb := hg.1.2.2.1
  have hw := hg.1.2.1
  unfold a_call
  rw [← h.1 2 (by decide)]
  rw [ev_call h hg]
def a_caller (E : Ev)  : Nat × Int := (0, s_clr E)
theorem PX_caller (E : Ev) (M : Mm) (hI : isE M 1 E) (hg : s_ok E)   : en_Ct 9 0 88 [.inr (.inr (1, 5, 0))] M (fun r M' => r = some (.inl (a_caller E ).2) ∧ sX (aX M (a_caller E ).1) M') := by
  obtain ⟨n0, n1, n2, a0, a1, a2, a3, a4, a5, a6, a7⟩ := hg.1
  have r0 : M.1 1 0 = E.1 0 0 := r0_I hI 0
  have r1 : M.1 1 1 = E.1 0 1 := r0_I hI 1
  have r2 : M.1 1 2 = E.1 0 2 := r0_I hI 2
  refine ct_88 rfl ?_
  refine aw_88_0 ?_
  refine ⟨4, 0, by first | decide | omega, by first | decide | omega, en_Ct_mono (R_reckon 1 E M hI hg (by omega)) ?_⟩
  rintro _ K1 ⟨rfl, hf, hO⟩
  replace hI := isE_o hI hf (Or.inl (by omega))
  have ha : a_caller E  = (0, K1.1 49 1) := by
    unfold a_caller
    repeat first | rw [if_pos (by omega)] | rw [if_neg (by omega)]
    first | done | rfl | (rw [hO.2.1])
  rw [ha]
  exact ⟨rfl, sX_fr hf (by decide) (by decide)⟩
theorem PM_caller (E : Ev) (M : Mm) (hJ : isM M 84 E) (hg : s_ok E)   : en_Ct 9 0 195 [.inr (.inr (1, 6, 84))] M (fun r M' => r = some (.inl (a_caller E ).2) ∧ sM (aM M (a_caller E ).1) M') := by
  obtain ⟨n0, n1, n2, a0, a1, a2, a3, a4, a5, a6, a7⟩ := hg.1
  have r0 : M.1 84 9 = E.1 0 0 := hJ.1.1
  have r1 : M.1 84 10 = E.1 0 1 := hJ.1.2.1
  have r2 : M.1 84 18 = E.1 0 2 := hJ.1.2.2.1
  refine ct_195 rfl ?_
  refine aw_195_0 ?_
  refine ⟨4, 0, by first | decide | omega, by first | decide | omega, en_Ct_eq (R_callerNow 84 E M hJ hg) ?_⟩
  have ha : a_caller E  = (0, s_clr E) := by
    unfold a_caller
    repeat first | rw [if_pos (by omega)] | rw [if_neg (by omega)]
    first | done | rfl | (rfl)
  rw [ha]
  exact ⟨rfl, sM_rfl⟩
theorem ea_caller {E F : Ev} (h : evs E F) (hg : s_ok E)  : a_caller E  = a_caller F  := by
  have hb := hg.1.2.2.1
  have hw := hg.1.2.1
  unfold a_caller
  rw [ev_clr h hg]
def a_written (E : Ev) (x : Int) (s : Int) : Nat × Int := if (0 ≤ x ∧ x < E.1 0 2) ∧ 0 ≤ s ∧ s ≤ 600 then (0, ((wrt E x.toNat s : Nat) : Int)) else (1, -2)
theorem PX_written (E : Ev) (M : Mm) (hI : isE M 1 E) (hg : s_ok E) (x : Int) (s : Int) (hx : -2147483648 ≤ x ∧ x < 2147483648) (hs : -2147483648 ≤ s ∧ s < 2147483648) : en_Ct 9 0 89 [.inr (.inr (1, 5, 0)), .inl x, .inl s] M (fun r M' => r = some (.inl (a_written E x s).2) ∧ sX (aX M (a_written E x s).1) M') := by
  obtain ⟨n0, n1, n2, a0, a1, a2, a3, a4, a5, a6, a7⟩ := hg.1
  have r0 : M.1 1 0 = E.1 0 0 := r0_I hI 0
  have r1 : M.1 1 1 = E.1 0 1 := r0_I hI 1
  have r2 : M.1 1 2 = E.1 0 2 := r0_I hI 2
  refine ct_89 rfl ?_
  refine aw_89_0 ?_
  by_cases c1 : 0 ≤ x ∧ x < E.1 0 2
  · refine ⟨2, 0, by first | decide | omega, by first | decide | omega, en_Ct_t (X_isPerson (M := M) (e := 1) (E := E) hI hg (x := x) (by omega)) c1 ?_⟩
    refine br_eq_n (by decide) (by decide) (by decide) ?_
    by_cases c3 : 0 ≤ s ∧ s ≤ 600
    · refine ⟨1, 0, by first | decide | omega, by first | decide | omega, en_Ct_t (R_within s 0 600 (by omega) (by omega) (by omega) _) c3 ?_⟩
      refine br_ne_y (by decide) (by decide) (by decide) ?_
      refine aw_89_29 ?_
      refine ⟨3, 0, by first | decide | omega, by first | decide | omega, en_Ct_eq (X_wrt (M := M) (e := 1) (E := E) hI hg (x := x) (by omega) (by omega) (sec := s) (by omega)) ?_⟩
      have ha : a_written E x s = (0, ((wrt E x.toNat s : Nat) : Int)) := by
        unfold a_written
        repeat first | rw [if_pos (by omega)] | rw [if_neg (by omega)]
        first | done | rfl | (rfl)
      rw [ha]
      exact ⟨rfl, sX_rfl⟩
    · refine ⟨1, 0, by first | decide | omega, by first | decide | omega, en_Ct_f (R_within s 0 600 (by omega) (by omega) (by omega) _) c3 ?_⟩
      refine br_ne_n (by decide) (by decide) (by decide) ?_
      refine aw_89_22 ?_
      refine ⟨2, 0, by first | decide | omega, by first | decide | omega, en_Ct_eq (R_refX (-2) (by omega) M) ?_⟩
      have ha : a_written E x s = (1, (-2)) := by
        unfold a_written
        repeat first | rw [if_pos (by omega)] | rw [if_neg (by omega)]
        first | done | rfl | (rfl)
      rw [ha]
      exact ⟨rfl, sX_rfl⟩
  · refine ⟨2, 0, by first | decide | omega, by first | decide | omega, en_Ct_f (X_isPerson (M := M) (e := 1) (E := E) hI hg (x := x) (by omega)) c1 ?_⟩
    refine br_eq_y (by decide) (by decide) (by decide) ?_
    refine aw_89_22 ?_
    refine ⟨2, 0, by first | decide | omega, by first | decide | omega, en_Ct_eq (R_refX (-2) (by omega) M) ?_⟩
    have ha : a_written E x s = (1, (-2)) := by
      unfold a_written
      repeat first | rw [if_pos (by omega)] | rw [if_neg (by omega)]
      first | done | rfl | (rfl)
    rw [ha]
    exact ⟨rfl, sX_rfl⟩
theorem PM_written (E : Ev) (M : Mm) (hJ : isM M 84 E) (hg : s_ok E) (x : Int) (s : Int) (hx : -2147483648 ≤ x ∧ x < 2147483648) (hs : -2147483648 ≤ s ∧ s < 2147483648) : en_Ct 9 0 196 [.inr (.inr (1, 6, 84)), .inl x, .inl s] M (fun r M' => r = some (.inl (a_written E x s).2) ∧ sM (aM M (a_written E x s).1) M') := by
  obtain ⟨n0, n1, n2, a0, a1, a2, a3, a4, a5, a6, a7⟩ := hg.1
  have r0 : M.1 84 9 = E.1 0 0 := hJ.1.1
  have r1 : M.1 84 10 = E.1 0 1 := hJ.1.2.1
  have r2 : M.1 84 18 = E.1 0 2 := hJ.1.2.2.1
  refine ct_196 rfl ?_
  refine aw_196_0 ?_
  by_cases c1 : 0 ≤ x ∧ x < E.1 0 2
  · refine ⟨2, 0, by first | decide | omega, by first | decide | omega, en_Ct_t (M_isPerson (M := M) (E := E) hJ hg (x := x) (by omega)) c1 ?_⟩
    refine br_eq_n (by decide) (by decide) (by decide) ?_
    by_cases c3 : 0 ≤ s ∧ s ≤ 600
    · refine ⟨1, 0, by first | decide | omega, by first | decide | omega, en_Ct_t (R_in (en_wr s) 0 600 s 0 600 (wl_wr ⟨by omega, by omega⟩) (wl_of ⟨by omega, by omega⟩) (wl_of ⟨by omega, by omega⟩) _) c3 ?_⟩
      refine br_eq_n (by decide) (by decide) (by decide) ?_
      refine ⟨2, 0, by first | decide | omega, by first | decide | omega, en_Ct_eq (M_wrt (M := M) (E := E) hJ hg (x := x) (by omega) (by omega) (sec := s) (by omega)) ?_⟩
      refine aw_196_35 ?_
      have ha : a_written E x s = (0, ((wrt E x.toNat s : Nat) : Int)) := by
        unfold a_written
        repeat first | rw [if_pos (by omega)] | rw [if_neg (by omega)]
        first | done | rfl | (rfl)
      rw [ha]
      exact ⟨rfl, sM_rfl⟩
    · refine ⟨1, 0, by first | decide | omega, by first | decide | omega, en_Ct_f (R_in (en_wr s) 0 600 s 0 600 (wl_wr ⟨by omega, by omega⟩) (wl_of ⟨by omega, by omega⟩) (wl_of ⟨by omega, by omega⟩) _) c3 ?_⟩
      refine br_eq_y (by decide) (by decide) (by decide) ?_
      refine aw_196_29 ?_
      refine ⟨1, 0, by first | decide | omega, by first | decide | omega, en_Ct_eq (R_refM (-2) (by omega) M) ?_⟩
      refine aw_196_35 ?_
      have ha : a_written E x s = (1, (-2)) := by
        unfold a_written
        repeat first | rw [if_pos (by omega)] | rw [if_neg (by omega)]
        first | done | rfl | (rfl)
      rw [ha]
      exact ⟨rfl, sM_rfl⟩
  · refine ⟨2, 0, by first | decide | omega, by first | decide | omega, en_Ct_f (M_isPerson (M := M) (E := E) hJ hg (x := x) (by omega)) c1 ?_⟩
    refine br_eq_y (by decide) (by decide) (by decide) ?_
    refine aw_196_29 ?_
    refine ⟨1, 0, by first | decide | omega, by first | decide | omega, en_Ct_eq (R_refM (-2) (by omega) M) ?_⟩
    refine aw_196_35 ?_
    have ha : a_written E x s = (1, (-2)) := by
      unfold a_written
      repeat first | rw [if_pos (by omega)] | rw [if_neg (by omega)]
      first | done | rfl | (rfl)
    rw [ha]
    exact ⟨rfl, sM_rfl⟩
theorem ea_written {E F : Ev} (h : evs E F) (hg : s_ok E) {x : Int} {s : Int} : a_written E x s = a_written F x s := by
  have hb := hg.1.2.2.1
  have hw := hg.1.2.1
  unfold a_written
  rw [← h.1 2 (by decide)]
  split
  · rw [ev_wrt h hg (by omega)]
  · rfl
def a_kept (E : Ev) (x : Int) : Nat × Int := if 0 ≤ x ∧ x < E.1 0 2 then (0, ((kpw E x.toNat : Nat) : Int)) else (1, -2)
theorem PX_kept (E : Ev) (M : Mm) (hI : isE M 1 E) (hg : s_ok E) (x : Int) (hx : -2147483648 ≤ x ∧ x < 2147483648) : en_Ct 9 0 90 [.inr (.inr (1, 5, 0)), .inl x] M (fun r M' => r = some (.inl (a_kept E x).2) ∧ sX (aX M (a_kept E x).1) M') := by
  obtain ⟨n0, n1, n2, a0, a1, a2, a3, a4, a5, a6, a7⟩ := hg.1
  have r0 : M.1 1 0 = E.1 0 0 := r0_I hI 0
  have r1 : M.1 1 1 = E.1 0 1 := r0_I hI 1
  have r2 : M.1 1 2 = E.1 0 2 := r0_I hI 2
  refine ct_90 rfl ?_
  refine aw_90_0 ?_
  by_cases c1 : 0 ≤ x ∧ x < E.1 0 2
  · refine ⟨2, 0, by first | decide | omega, by first | decide | omega, en_Ct_t (X_isPerson (M := M) (e := 1) (E := E) hI hg (x := x) (by omega)) c1 ?_⟩
    refine br_ne_y (by decide) (by decide) (by decide) ?_
    refine aw_90_18 ?_
    refine ⟨4, 0, by first | decide | omega, by first | decide | omega, en_Ct_mono (R_reckon 1 E M hI hg (by omega)) ?_⟩
    rintro _ K3 ⟨rfl, hf, hO⟩
    replace hI := isE_o hI hf (Or.inl (by omega))
    refine ⟨x.toNat, it_nn (x := x) (by omega), (show x.toNat < 4 by omega), ?_⟩
    have ha : a_kept E x = (0, K3.1 50 x.toNat) := by
      unfold a_kept
      repeat first | rw [if_pos (by omega)] | rw [if_neg (by omega)]
      first | done | rfl | (rw [(hO.2.2 x.toNat (by omega)).1])
    rw [ha]
    exact ⟨rfl, sX_fr hf (by decide) (by decide)⟩
  · refine ⟨2, 0, by first | decide | omega, by first | decide | omega, en_Ct_f (X_isPerson (M := M) (e := 1) (E := E) hI hg (x := x) (by omega)) c1 ?_⟩
    refine br_ne_n (by decide) (by decide) (by decide) ?_
    refine ⟨2, 0, by first | decide | omega, by first | decide | omega, en_Ct_eq (R_refX (-2) (by omega) M) ?_⟩
    have ha : a_kept E x = (1, (-2)) := by
      unfold a_kept
      repeat first | rw [if_pos (by omega)] | rw [if_neg (by omega)]
      first | done | rfl | (rw [(hO.2.2 x.toNat (by omega)).1])
    rw [ha]
    exact ⟨rfl, sX_rfl⟩
theorem PM_kept (E : Ev) (M : Mm) (hJ : isM M 84 E) (hg : s_ok E) (x : Int) (hx : -2147483648 ≤ x ∧ x < 2147483648) : en_Ct 9 0 198 [.inr (.inr (1, 6, 84)), .inl x] M (fun r M' => r = some (.inl (a_kept E x).2) ∧ sM (aM M (a_kept E x).1) M') := by
  obtain ⟨n0, n1, n2, a0, a1, a2, a3, a4, a5, a6, a7⟩ := hg.1
  have r0 : M.1 84 9 = E.1 0 0 := hJ.1.1
  have r1 : M.1 84 10 = E.1 0 1 := hJ.1.2.1
  have r2 : M.1 84 18 = E.1 0 2 := hJ.1.2.2.1
  refine ct_198 rfl ?_
  refine aw_198_0 ?_
  by_cases c1 : 0 ≤ x ∧ x < E.1 0 2
  · refine ⟨2, 0, by first | decide | omega, by first | decide | omega, en_Ct_t (M_isPerson (M := M) (E := E) hJ hg (x := x) (by omega)) c1 ?_⟩
    refine br_eq_n (by decide) (by decide) (by decide) ?_
    refine ⟨4, 0, by first | decide | omega, by first | decide | omega, en_Ct_eq (M_kpw (M := M) (E := E) hJ hg (x := x) (by omega) (by omega)) ?_⟩
    refine aw_198_22 ?_
    have ha : a_kept E x = (0, ((kpw E x.toNat : Nat) : Int)) := by
      unfold a_kept
      repeat first | rw [if_pos (by omega)] | rw [if_neg (by omega)]
      first | done | rfl | (rfl)
    rw [ha]
    exact ⟨rfl, sM_rfl⟩
  · refine ⟨2, 0, by first | decide | omega, by first | decide | omega, en_Ct_f (M_isPerson (M := M) (E := E) hJ hg (x := x) (by omega)) c1 ?_⟩
    refine br_eq_y (by decide) (by decide) (by decide) ?_
    refine aw_198_16 ?_
    refine ⟨1, 0, by first | decide | omega, by first | decide | omega, en_Ct_eq (R_refM (-2) (by omega) M) ?_⟩
    refine aw_198_22 ?_
    have ha : a_kept E x = (1, (-2)) := by
      unfold a_kept
      repeat first | rw [if_pos (by omega)] | rw [if_neg (by omega)]
      first | done | rfl | (rfl)
    rw [ha]
    exact ⟨rfl, sM_rfl⟩
theorem ea_kept {E F : Ev} (h : evs E F) (hg : s_ok E) {x : Int} : a_kept E x = a_kept F x := by
  have hb := hg.1.2.2.1
  have hw := hg.1.2.1
  unfold a_kept
  rw [← h.1 2 (by decide)]
  split
  · rw [ev_kpw h hg (by omega)]
  · rfl
def a_points (E : Ev) (x : Int) (c : Int) : Nat × Int := if (0 ≤ x ∧ x < E.1 0 2) ∧ -1 ≤ c ∧ c < E.1 0 0 then (0, pts E x.toNat c) else (1, -2)
theorem PX_points (E : Ev) (M : Mm) (hI : isE M 1 E) (hg : s_ok E) (x : Int) (c : Int) (hx : -2147483648 ≤ x ∧ x < 2147483648) (hc : -2147483648 ≤ c ∧ c < 2147483648) : en_Ct 9 0 91 [.inr (.inr (1, 5, 0)), .inl x, .inl c] M (fun r M' => r = some (.inl (a_points E x c).2) ∧ sX (aX M (a_points E x c).1) M') := by
  obtain ⟨n0, n1, n2, a0, a1, a2, a3, a4, a5, a6, a7⟩ := hg.1
  have r0 : M.1 1 0 = E.1 0 0 := r0_I hI 0
  have r1 : M.1 1 1 = E.1 0 1 := r0_I hI 1
  have r2 : M.1 1 2 = E.1 0 2 := r0_I hI 2
  refine ct_91 rfl ?_
  refine aw_91_0 ?_
  by_cases c1 : 0 ≤ x ∧ x < E.1 0 2
  · refine ⟨2, 0, by first | decide | omega, by first | decide | omega, en_Ct_t (X_isPerson (M := M) (e := 1) (E := E) hI hg (x := x) (by omega)) c1 ?_⟩
    refine br_eq_n (by decide) (by decide) (by decide) ?_
    refine br_eq (a := c) (b := (-1)) (by omega) (by omega) (fun q3 => ?_) (fun q3 => ?_)
    · refine aw_91_34 ?_
      refine ⟨4, 0, by first | decide | omega, by first | decide | omega, en_Ct_mono (R_reckon 1 E M hI hg (by omega)) ?_⟩
      rintro _ K4 ⟨rfl, hf, hO⟩
      replace hI := isE_o hI hf (Or.inl (by omega))
      refine ⟨3, 0, by first | decide | omega, by first | decide | omega, en_Ct_eq (X_pin (M := K4) (e := 1) (E := E) hI hO hg (x := x) (by omega) (by omega) (c := c) (by omega)) ?_⟩
      have pb6 := pts_b (E := E) (p := x.toNat) (c := c) hg (by omega)
      have ha : a_points E x c = (0, pts E x.toNat c) := by
        unfold a_points
        repeat first | rw [if_pos (by omega)] | rw [if_neg (by omega)]
        first | done | rfl | (rfl)
      rw [ha]
      exact ⟨rfl, sX_fr hf (by decide) (by decide)⟩
    · by_cases c7 : 0 ≤ c ∧ c < E.1 0 0
      · refine ⟨2, 0, by first | decide | omega, by first | decide | omega, en_Ct_t (X_isColumn (M := M) (e := 1) (E := E) hI hg (x := c) (by omega)) c7 ?_⟩
        refine br_ne_y (by decide) (by decide) (by decide) ?_
        refine aw_91_34 ?_
        refine ⟨4, 0, by first | decide | omega, by first | decide | omega, en_Ct_mono (R_reckon 1 E M hI hg (by omega)) ?_⟩
        rintro _ K9 ⟨rfl, hf, hO⟩
        replace hI := isE_o hI hf (Or.inl (by omega))
        refine ⟨3, 0, by first | decide | omega, by first | decide | omega, en_Ct_eq (X_pin (M := K9) (e := 1) (E := E) hI hO hg (x := x) (by omega) (by omega) (c := c) (by omega)) ?_⟩
        have pb11 := pts_b (E := E) (p := x.toNat) (c := c) hg (by omega)
        have ha : a_points E x c = (0, pts E x.toNat c) := by
          unfold a_points
          repeat first | rw [if_pos (by omega)] | rw [if_neg (by omega)]
          first | done | rfl | (rfl)
        rw [ha]
        exact ⟨rfl, sX_fr hf (by decide) (by decide)⟩
      · refine ⟨2, 0, by first | decide | omega, by first | decide | omega, en_Ct_f (X_isColumn (M := M) (e := 1) (E := E) hI hg (x := c) (by omega)) c7 ?_⟩
        refine br_ne_n (by decide) (by decide) (by decide) ?_
        refine aw_91_27 ?_
        refine ⟨2, 0, by first | decide | omega, by first | decide | omega, en_Ct_eq (R_refX (-2) (by omega) M) ?_⟩
        have ha : a_points E x c = (1, (-2)) := by
          unfold a_points
          repeat first | rw [if_pos (by omega)] | rw [if_neg (by omega)]
          first | done | rfl | (rfl)
        rw [ha]
        exact ⟨rfl, sX_rfl⟩
  · refine ⟨2, 0, by first | decide | omega, by first | decide | omega, en_Ct_f (X_isPerson (M := M) (e := 1) (E := E) hI hg (x := x) (by omega)) c1 ?_⟩
    refine br_eq_y (by decide) (by decide) (by decide) ?_
    refine aw_91_27 ?_
    refine ⟨2, 0, by first | decide | omega, by first | decide | omega, en_Ct_eq (R_refX (-2) (by omega) M) ?_⟩
    have ha : a_points E x c = (1, (-2)) := by
      unfold a_points
      repeat first | rw [if_pos (by omega)] | rw [if_neg (by omega)]
      first | done | rfl | (rfl)
    rw [ha]
    exact ⟨rfl, sX_rfl⟩
theorem PM_points (E : Ev) (M : Mm) (hJ : isM M 84 E) (hg : s_ok E) (x : Int) (c : Int) (hx : -2147483648 ≤ x ∧ x < 2147483648) (hc : -2147483648 ≤ c ∧ c < 2147483648) : en_Ct 9 0 204 [.inr (.inr (1, 6, 84)), .inl x, .inl c] M (fun r M' => r = some (.inl (a_points E x c).2) ∧ sM (aM M (a_points E x c).1) M') := by
  obtain ⟨n0, n1, n2, a0, a1, a2, a3, a4, a5, a6, a7⟩ := hg.1
  have r0 : M.1 84 9 = E.1 0 0 := hJ.1.1
  have r1 : M.1 84 10 = E.1 0 1 := hJ.1.2.1
  have r2 : M.1 84 18 = E.1 0 2 := hJ.1.2.2.1
  refine ct_204 rfl ?_
  refine aw_204_0 ?_
  by_cases c1 : 0 ≤ x ∧ x < E.1 0 2
  · refine ⟨2, 0, by first | decide | omega, by first | decide | omega, en_Ct_t (M_isPerson (M := M) (E := E) hJ hg (x := x) (by omega)) c1 ?_⟩
    refine br_eq_n (by decide) (by decide) (by decide) ?_
    by_cases c3 : (-1) ≤ c ∧ c ≤ ((M.1 84 9) - 1)
    · refine ⟨1, 0, by first | decide | omega, by first | decide | omega, en_Ct_t (R_in (en_wr c) (-1) (en_wr ((M.1 84 9) - 1)) c (-1) ((M.1 84 9) - 1) (wl_wr ⟨by omega, by omega⟩) (wl_of ⟨by omega, by omega⟩) (wl_wr ⟨by omega, by omega⟩) _) c3 ?_⟩
      refine br_ne_y (by decide) (by decide) (by decide) ?_
      refine aw_204_33 ?_
      refine ⟨5, 0, by first | decide | omega, by first | decide | omega, en_Ct_mono (R_findKept 84 E M hJ hg) ?_⟩
      rintro _ K5 ⟨rfl, hf, hK⟩
      replace hJ := isM_k hJ hf
      refine br_ne (a := c) (b := (-1)) (by omega) (by omega) (fun q6 => ?_) (fun q6 => ?_)
      · refine aw_204_50 ?_
        refine ⟨2, 0, by first | decide | omega, by first | decide | omega, en_Ct_eq (M_pointsAt (M := K5) (E := E) hJ hK hg (x := x) (by omega) (by omega) (c := c) (by omega)) ?_⟩
        refine aw_204_56 ?_
        have ha : a_points E x c = (0, pts E x.toNat c) := by
          unfold a_points
          repeat first | rw [if_pos (by omega)] | rw [if_neg (by omega)]
          first | done | rfl | (rw [show c = -1 by omega])
        rw [ha]
        exact ⟨rfl, sM_fr hf (by decide) (by decide)⟩
      · refine ⟨3, 0, by first | decide | omega, by first | decide | omega, en_Ct_eq (V_pointsOf (b := 84) (E := E) (M := K5) hJ hK hg (x := x) (by omega) (by omega)) ?_⟩
        have pb7 := pts_b (E := E) (p := x.toNat) (c := -1) hg (by omega)
        refine aw_204_56 ?_
        have ha : a_points E x c = (0, pts E x.toNat (-1)) := by
          unfold a_points
          repeat first | rw [if_pos (by omega)] | rw [if_neg (by omega)]
          first | done | rfl | (rw [show c = -1 by omega])
        rw [ha]
        exact ⟨rfl, sM_fr hf (by decide) (by decide)⟩
    · refine ⟨1, 0, by first | decide | omega, by first | decide | omega, en_Ct_f (R_in (en_wr c) (-1) (en_wr ((M.1 84 9) - 1)) c (-1) ((M.1 84 9) - 1) (wl_wr ⟨by omega, by omega⟩) (wl_of ⟨by omega, by omega⟩) (wl_wr ⟨by omega, by omega⟩) _) c3 ?_⟩
      refine br_ne_n (by decide) (by decide) (by decide) ?_
      refine aw_204_26 ?_
      refine ⟨1, 0, by first | decide | omega, by first | decide | omega, en_Ct_eq (R_refM (-2) (by omega) M) ?_⟩
      have ha : a_points E x c = (1, (-2)) := by
        unfold a_points
        repeat first | rw [if_pos (by omega)] | rw [if_neg (by omega)]
        first | done | rfl | (rw [show c = -1 by omega])
      rw [ha]
      exact ⟨rfl, sM_rfl⟩
  · refine ⟨2, 0, by first | decide | omega, by first | decide | omega, en_Ct_f (M_isPerson (M := M) (E := E) hJ hg (x := x) (by omega)) c1 ?_⟩
    refine br_eq_y (by decide) (by decide) (by decide) ?_
    refine aw_204_26 ?_
    refine ⟨1, 0, by first | decide | omega, by first | decide | omega, en_Ct_eq (R_refM (-2) (by omega) M) ?_⟩
    have ha : a_points E x c = (1, (-2)) := by
      unfold a_points
      repeat first | rw [if_pos (by omega)] | rw [if_neg (by omega)]
      first | done | rfl | (rw [show c = -1 by omega])
    rw [ha]
    exact ⟨rfl, sM_rfl⟩
theorem ea_points {E F : Ev} (h : evs E F) (hg : s_ok E) {x : Int} {c : Int} : a_points E x c = a_points F x c := by
  have hb := hg.1.2.2.1
  have hw := hg.1.2.1
  unfold a_points
  rw [← h.1 2 (by decide)]
  rw [← h.1 0 (by decide)]
  split
  · rw [ev_pts h hg (by omega)]
  · rfl
def a_winner (E : Ev)  : Nat × Int := if E.1 0 2 = 0 then (4, -5) else (0, (s_ld E (-1) (E.1 0 2).toNat).1)
theorem PX_winner (E : Ev) (M : Mm) (hI : isE M 1 E) (hg : s_ok E)   : en_Ct 9 0 92 [.inr (.inr (1, 5, 0))] M (fun r M' => r = some (.inl (a_winner E ).2) ∧ sX (aX M (a_winner E ).1) M') := by
  obtain ⟨n0, n1, n2, a0, a1, a2, a3, a4, a5, a6, a7⟩ := hg.1
  have r0 : M.1 1 0 = E.1 0 0 := r0_I hI 0
  have r1 : M.1 1 1 = E.1 0 1 := r0_I hI 1
  have r2 : M.1 1 2 = E.1 0 2 := r0_I hI 2
  refine ct_92 rfl ?_
  refine aw_92_0 ?_
  refine br_ne (a := M.1 1 2) (b := 0) (by omega) (by omega) (fun q1 => ?_) (fun q1 => ?_)
  · refine aw_92_17 ?_
    refine ⟨4, 0, by first | decide | omega, by first | decide | omega, en_Ct_mono (R_reckon 1 E M hI hg (by omega)) ?_⟩
    rintro _ K2 ⟨rfl, hf, hO⟩
    replace hI := isE_o hI hf (Or.inl (by omega))
    refine ⟨4, 0, by first | decide | omega, by first | decide | omega, en_Ct_eq (R_ld 1 E K2 hI hO hg (-1) (by omega)) ?_⟩
    have ha : a_winner E  = (0, (s_ld E (-1) (E.1 0 2).toNat).1) := by
      unfold a_winner
      repeat first | rw [if_pos (by omega)] | rw [if_neg (by omega)]
      first | done | rfl | (rfl)
    rw [ha]
    exact ⟨rfl, sX_fr hf (by decide) (by decide)⟩
  · refine ⟨2, 0, by first | decide | omega, by first | decide | omega, en_Ct_eq (R_refX (-5) (by omega) M) ?_⟩
    have ha : a_winner E  = (4, (-5)) := by
      unfold a_winner
      repeat first | rw [if_pos (by omega)] | rw [if_neg (by omega)]
      first | done | rfl | (rfl)
    rw [ha]
    exact ⟨rfl, sX_rfl⟩
theorem PM_winner (E : Ev) (M : Mm) (hJ : isM M 84 E) (hg : s_ok E)   : en_Ct 9 0 206 [.inr (.inr (1, 6, 84))] M (fun r M' => r = some (.inl (a_winner E ).2) ∧ sM (aM M (a_winner E ).1) M') := by
  obtain ⟨n0, n1, n2, a0, a1, a2, a3, a4, a5, a6, a7⟩ := hg.1
  have r0 : M.1 84 9 = E.1 0 0 := hJ.1.1
  have r1 : M.1 84 10 = E.1 0 1 := hJ.1.2.1
  have r2 : M.1 84 18 = E.1 0 2 := hJ.1.2.2.1
  refine ct_206 rfl ?_
  refine aw_206_0 ?_
  refine br_ne (a := M.1 84 18) (b := 0) (by omega) (by omega) (fun q1 => ?_) (fun q1 => ?_)
  · refine aw_206_16 ?_
    refine ⟨6, 0, by first | decide | omega, by first | decide | omega, en_Ct_mono (R_mostBut 84 E M hJ hg (-1) (by omega)) ?_⟩
    rintro _ K2 ⟨rfl, hf, hK⟩
    replace hJ := isM_k hJ hf
    refine aw_206_21 ?_
    have ha : a_winner E  = (0, (s_ld E (-1) (E.1 0 2).toNat).1) := by
      unfold a_winner
      repeat first | rw [if_pos (by omega)] | rw [if_neg (by omega)]
      first | done | rfl | (rfl)
    rw [ha]
    exact ⟨rfl, sM_fr hf (by decide) (by decide)⟩
  · refine ⟨1, 0, by first | decide | omega, by first | decide | omega, en_Ct_eq (R_refM (-5) (by omega) M) ?_⟩
    refine aw_206_21 ?_
    have ha : a_winner E  = (4, (-5)) := by
      unfold a_winner
      repeat first | rw [if_pos (by omega)] | rw [if_neg (by omega)]
      first | done | rfl | (rfl)
    rw [ha]
    exact ⟨rfl, sM_rfl⟩
theorem ea_winner {E F : Ev} (h : evs E F) (hg : s_ok E)  : a_winner E  = a_winner F  := by
  have hb := hg.1.2.2.1
  have hw := hg.1.2.1
  unfold a_winner
  rw [ev_lead h hg, h.1 2 (by decide)]
def a_rival (E : Ev) (x : Int) : Nat × Int := if 0 ≤ x ∧ x < E.1 0 2 then (0, (s_ld E x (E.1 0 2).toNat).1) else (1, -2)
theorem PX_rival (E : Ev) (M : Mm) (hI : isE M 1 E) (hg : s_ok E) (x : Int) (hx : -2147483648 ≤ x ∧ x < 2147483648) : en_Ct 9 0 106 [.inr (.inr (1, 5, 0)), .inl x] M (fun r M' => r = some (.inl (a_rival E x).2) ∧ sX (aX M (a_rival E x).1) M') := by
  obtain ⟨n0, n1, n2, a0, a1, a2, a3, a4, a5, a6, a7⟩ := hg.1
  have r0 : M.1 1 0 = E.1 0 0 := r0_I hI 0
  have r1 : M.1 1 1 = E.1 0 1 := r0_I hI 1
  have r2 : M.1 1 2 = E.1 0 2 := r0_I hI 2
  refine ct_106 rfl ?_
  refine aw_106_0 ?_
  by_cases c1 : 0 ≤ x ∧ x < E.1 0 2
  · refine ⟨2, 0, by first | decide | omega, by first | decide | omega, en_Ct_t (X_isPerson (M := M) (e := 1) (E := E) hI hg (x := x) (by omega)) c1 ?_⟩
    refine br_ne_y (by decide) (by decide) (by decide) ?_
    refine aw_106_18 ?_
    refine ⟨4, 0, by first | decide | omega, by first | decide | omega, en_Ct_mono (R_reckon 1 E M hI hg (by omega)) ?_⟩
    rintro _ K3 ⟨rfl, hf, hO⟩
    replace hI := isE_o hI hf (Or.inl (by omega))
    refine ⟨4, 0, by first | decide | omega, by first | decide | omega, en_Ct_eq (R_ld 1 E K3 hI hO hg x (by omega)) ?_⟩
    have ha : a_rival E x = (0, (s_ld E x (E.1 0 2).toNat).1) := by
      unfold a_rival
      repeat first | rw [if_pos (by omega)] | rw [if_neg (by omega)]
      first | done | rfl | (rfl)
    rw [ha]
    exact ⟨rfl, sX_fr hf (by decide) (by decide)⟩
  · refine ⟨2, 0, by first | decide | omega, by first | decide | omega, en_Ct_f (X_isPerson (M := M) (e := 1) (E := E) hI hg (x := x) (by omega)) c1 ?_⟩
    refine br_ne_n (by decide) (by decide) (by decide) ?_
    refine ⟨2, 0, by first | decide | omega, by first | decide | omega, en_Ct_eq (R_refX (-2) (by omega) M) ?_⟩
    have ha : a_rival E x = (1, (-2)) := by
      unfold a_rival
      repeat first | rw [if_pos (by omega)] | rw [if_neg (by omega)]
      first | done | rfl | (rfl)
    rw [ha]
    exact ⟨rfl, sX_rfl⟩
theorem PM_rival (E : Ev) (M : Mm) (hJ : isM M 84 E) (hg : s_ok E) (x : Int) (hx : -2147483648 ≤ x ∧ x < 2147483648) : en_Ct 9 0 207 [.inr (.inr (1, 6, 84)), .inl x] M (fun r M' => r = some (.inl (a_rival E x).2) ∧ sM (aM M (a_rival E x).1) M') := by
  obtain ⟨n0, n1, n2, a0, a1, a2, a3, a4, a5, a6, a7⟩ := hg.1
  have r0 : M.1 84 9 = E.1 0 0 := hJ.1.1
  have r1 : M.1 84 10 = E.1 0 1 := hJ.1.2.1
  have r2 : M.1 84 18 = E.1 0 2 := hJ.1.2.2.1
  refine ct_207 rfl ?_
  refine aw_207_0 ?_
  by_cases c1 : 0 ≤ x ∧ x < E.1 0 2
  · refine ⟨2, 0, by first | decide | omega, by first | decide | omega, en_Ct_t (M_isPerson (M := M) (E := E) hJ hg (x := x) (by omega)) c1 ?_⟩
    refine br_eq_n (by decide) (by decide) (by decide) ?_
    refine ⟨6, 0, by first | decide | omega, by first | decide | omega, en_Ct_mono (R_mostBut 84 E M hJ hg x (by omega)) ?_⟩
    rintro _ K3 ⟨rfl, hf, hK⟩
    replace hJ := isM_k hJ hf
    refine aw_207_22 ?_
    have ha : a_rival E x = (0, (s_ld E x (E.1 0 2).toNat).1) := by
      unfold a_rival
      repeat first | rw [if_pos (by omega)] | rw [if_neg (by omega)]
      first | done | rfl | (rfl)
    rw [ha]
    exact ⟨rfl, sM_fr hf (by decide) (by decide)⟩
  · refine ⟨2, 0, by first | decide | omega, by first | decide | omega, en_Ct_f (M_isPerson (M := M) (E := E) hJ hg (x := x) (by omega)) c1 ?_⟩
    refine br_eq_y (by decide) (by decide) (by decide) ?_
    refine aw_207_16 ?_
    refine ⟨1, 0, by first | decide | omega, by first | decide | omega, en_Ct_eq (R_refM (-2) (by omega) M) ?_⟩
    refine aw_207_22 ?_
    have ha : a_rival E x = (1, (-2)) := by
      unfold a_rival
      repeat first | rw [if_pos (by omega)] | rw [if_neg (by omega)]
      first | done | rfl | (rfl)
    rw [ha]
    exact ⟨rfl, sM_rfl⟩
theorem ea_rival {E F : Ev} (h : evs E F) (hg : s_ok E) {x : Int} : a_rival E x = a_rival F x := by
  have hb := hg.1.2.2.1
  have hw := hg.1.2.1
  unfold a_rival
  rw [ev_lead h hg, h.1 2 (by decide)]
def a_score (E : Ev) (x : Int) : Nat × Int := if 0 ≤ x ∧ x < E.1 0 2 then (0, E.1 15 x.toNat) else (1, -2)
theorem PX_score (E : Ev) (M : Mm) (hI : isE M 1 E) (hg : s_ok E) (x : Int) (hx : -2147483648 ≤ x ∧ x < 2147483648) : en_Ct 9 0 86 [.inr (.inr (1, 5, 0)), .inl x] M (fun r M' => r = some (.inl (a_score E x).2) ∧ sX (aX M (a_score E x).1) M') := by
  obtain ⟨n0, n1, n2, a0, a1, a2, a3, a4, a5, a6, a7⟩ := hg.1
  have r0 : M.1 1 0 = E.1 0 0 := r0_I hI 0
  have r1 : M.1 1 1 = E.1 0 1 := r0_I hI 1
  have r2 : M.1 1 2 = E.1 0 2 := r0_I hI 2
  refine ct_86 rfl ?_
  refine aw_86_0 ?_
  by_cases c1 : 0 ≤ x ∧ x < E.1 0 2
  · refine ⟨2, 0, by first | decide | omega, by first | decide | omega, en_Ct_t (X_isPerson (M := M) (e := 1) (E := E) hI hg (x := x) (by omega)) c1 ?_⟩
    refine br_eq_n (by decide) (by decide) (by decide) ?_
    refine ⟨x.toNat, it_nn (x := x) (by omega), (show x.toNat < 4 by omega), ?_⟩
    refine aw_86_29 ?_
    have ha : a_score E x = (0, M.1 16 x.toNat) := by
      unfold a_score
      repeat first | rw [if_pos (by omega)] | rw [if_neg (by omega)]
      first | done | rfl | (rw [show M.1 16 = E.1 15 from hI.1 15 (by decide)])
    rw [ha]
    exact ⟨rfl, sX_rfl⟩
  · refine ⟨2, 0, by first | decide | omega, by first | decide | omega, en_Ct_f (X_isPerson (M := M) (e := 1) (E := E) hI hg (x := x) (by omega)) c1 ?_⟩
    refine br_eq_y (by decide) (by decide) (by decide) ?_
    refine aw_86_23 ?_
    refine ⟨2, 0, by first | decide | omega, by first | decide | omega, en_Ct_eq (R_refX (-2) (by omega) M) ?_⟩
    refine aw_86_29 ?_
    have ha : a_score E x = (1, (-2)) := by
      unfold a_score
      repeat first | rw [if_pos (by omega)] | rw [if_neg (by omega)]
      first | done | rfl | (rw [show M.1 16 = E.1 15 from hI.1 15 (by decide)])
    rw [ha]
    exact ⟨rfl, sX_rfl⟩
theorem PM_score (E : Ev) (M : Mm) (hJ : isM M 84 E) (hg : s_ok E) (x : Int) (hx : -2147483648 ≤ x ∧ x < 2147483648) : en_Ct 9 0 188 [.inr (.inr (1, 6, 84)), .inl x] M (fun r M' => r = some (.inl (a_score E x).2) ∧ sM (aM M (a_score E x).1) M') := by
  obtain ⟨n0, n1, n2, a0, a1, a2, a3, a4, a5, a6, a7⟩ := hg.1
  have r0 : M.1 84 9 = E.1 0 0 := hJ.1.1
  have r1 : M.1 84 10 = E.1 0 1 := hJ.1.2.1
  have r2 : M.1 84 18 = E.1 0 2 := hJ.1.2.2.1
  refine ct_188 rfl ?_
  refine aw_188_0 ?_
  by_cases c1 : 0 ≤ x ∧ x < E.1 0 2
  · refine ⟨2, 0, by first | decide | omega, by first | decide | omega, en_Ct_t (M_isPerson (M := M) (E := E) hJ hg (x := x) (by omega)) c1 ?_⟩
    refine br_eq_n (by decide) (by decide) (by decide) ?_
    refine ⟨x.toNat, it_nn (x := x) (by omega), (show x.toNat < 4 by omega), ?_⟩
    refine aw_188_23 ?_
    have ha : a_score E x = (0, M.1 114 x.toNat) := by
      unfold a_score
      repeat first | rw [if_pos (by omega)] | rw [if_neg (by omega)]
      first | done | rfl | (rw [show M.1 114 = E.1 15 from hJ.2.1.2.2.1])
    rw [ha]
    exact ⟨rfl, sM_rfl⟩
  · refine ⟨2, 0, by first | decide | omega, by first | decide | omega, en_Ct_f (M_isPerson (M := M) (E := E) hJ hg (x := x) (by omega)) c1 ?_⟩
    refine br_eq_y (by decide) (by decide) (by decide) ?_
    refine aw_188_17 ?_
    refine ⟨1, 0, by first | decide | omega, by first | decide | omega, en_Ct_eq (R_refM (-2) (by omega) M) ?_⟩
    refine aw_188_23 ?_
    have ha : a_score E x = (1, (-2)) := by
      unfold a_score
      repeat first | rw [if_pos (by omega)] | rw [if_neg (by omega)]
      first | done | rfl | (rw [show M.1 114 = E.1 15 from hJ.2.1.2.2.1])
    rw [ha]
    exact ⟨rfl, sM_rfl⟩
theorem ea_score {E F : Ev} (h : evs E F) (hg : s_ok E) {x : Int} : a_score E x = a_score F x := by
  have hb := hg.1.2.2.1
  have hw := hg.1.2.1
  unfold a_score
  rw [← h.1 2 (by decide)]
  split
  · rw [(h.2.2.2.1 x.toNat (by omega)).2]
  · rfl
def a_sheetOf (E : Ev) (x : Int) (i : Int) : Nat × Int := if (0 ≤ x ∧ x < E.1 0 2) ∧ -1 ≤ i then (if E.1 14 x.toNat ≤ i then (4, -5) else if i = -1 then (0, E.1 14 x.toNat) else (0, E.2 x.toNat i.toNat)) else (1, -2)
theorem PX_sheetOf (E : Ev) (M : Mm) (hI : isE M 1 E) (hg : s_ok E) (x : Int) (i : Int) (hx : -2147483648 ≤ x ∧ x < 2147483648) (hi : -2147483648 ≤ i ∧ i < 2147483648) : en_Ct 9 0 85 [.inr (.inr (1, 5, 0)), .inl x, .inl i] M (fun r M' => r = some (.inl (a_sheetOf E x i).2) ∧ sX (aX M (a_sheetOf E x i).1) M') := by
  obtain ⟨n0, n1, n2, a0, a1, a2, a3, a4, a5, a6, a7⟩ := hg.1
  have r0 : M.1 1 0 = E.1 0 0 := r0_I hI 0
  have r1 : M.1 1 1 = E.1 0 1 := r0_I hI 1
  have r2 : M.1 1 2 = E.1 0 2 := r0_I hI 2
  have e14 : M.1 15 = E.1 14 := hI.1 14 (by decide)
  have s14 : ∀ p, p < 4 → 0 ≤ E.1 14 p ∧ E.1 14 p ≤ 5 := fun p hp => (hg.2.2.1 p hp).1
  have s15 : (0 ≤ x ∧ x < E.1 0 2) → 0 ≤ M.1 15 x.toNat ∧ M.1 15 x.toNat ≤ 5 := fun z => by rw [e14]; exact s14 _ (by omega)
  have e15 : M.1 15 x.toNat = E.1 14 x.toNat := congrFun e14 _
  refine ct_85 rfl ?_
  refine aw_85_0 ?_
  by_cases c1 : 0 ≤ x ∧ x < E.1 0 2
  · refine ⟨2, 0, by first | decide | omega, by first | decide | omega, en_Ct_t (X_isPerson (M := M) (e := 1) (E := E) hI hg (x := x) (by omega)) c1 ?_⟩
    refine br_eq_n (by decide) (by decide) (by decide) ?_
    refine br_ge (a := i) (b := (-1)) (by omega) (by omega) (fun q3 => ?_) (fun q3 => ?_)
    · refine aw_85_23 ?_
      refine br_ne (a := i) (b := (-1)) (by omega) (by omega) (fun q4 => ?_) (fun q4 => ?_)
      · refine aw_85_38 ?_
        refine ⟨x.toNat, it_nn (x := x) (by omega), (show x.toNat < 4 by omega), ?_⟩
        refine br_ge (a := i) (b := M.1 15 x.toNat) (by omega) (by omega) (fun q5 => ?_) (fun q5 => ?_)
        · refine aw_85_65 ?_
          refine ⟨2, 0, by first | decide | omega, by first | decide | omega, en_Ct_eq (R_refX (-5) (by omega) M) ?_⟩
          refine aw_85_71 ?_
          have ha : a_sheetOf E x i = (4, (-5)) := by
            unfold a_sheetOf
            repeat first | rw [if_pos (by omega)] | rw [if_neg (by omega)]
            first | done | rfl | (first | (rw [e15]) | (rw [show M.1 (1 + 9 + 1 + 1 * x.toNat) = E.2 x.toNat from hI.2 x.toNat (by omega)]))
          rw [ha]
          exact ⟨rfl, sX_rfl⟩
        · refine ⟨x.toNat, it_nn (x := x) (by omega), (show x.toNat < 4 by omega), ?_⟩
          refine ⟨i.toNat, it_nn (x := i) (by omega), (show i.toNat < 5 by omega), ?_⟩
          refine aw_85_71 ?_
          have ha : a_sheetOf E x i = (0, M.1 (11 + 1 * x.toNat) i.toNat) := by
            unfold a_sheetOf
            repeat first | rw [if_pos (by omega)] | rw [if_neg (by omega)]
            first | done | rfl | (first | (rw [e15]) | (rw [show M.1 (1 + 9 + 1 + 1 * x.toNat) = E.2 x.toNat from hI.2 x.toNat (by omega)]))
          rw [ha]
          exact ⟨rfl, sX_rfl⟩
      · refine ⟨x.toNat, it_nn (x := x) (by omega), (show x.toNat < 4 by omega), ?_⟩
        have ha : a_sheetOf E x i = (0, M.1 15 x.toNat) := by
          unfold a_sheetOf
          repeat first | rw [if_pos (by omega)] | rw [if_neg (by omega)]
          first | done | rfl | (first | (rw [e15]) | (rw [show M.1 (1 + 9 + 1 + 1 * x.toNat) = E.2 x.toNat from hI.2 x.toNat (by omega)]))
        rw [ha]
        exact ⟨rfl, sX_rfl⟩
    · refine aw_85_16 ?_
      refine ⟨2, 0, by first | decide | omega, by first | decide | omega, en_Ct_eq (R_refX (-2) (by omega) M) ?_⟩
      have ha : a_sheetOf E x i = (1, (-2)) := by
        unfold a_sheetOf
        repeat first | rw [if_pos (by omega)] | rw [if_neg (by omega)]
        first | done | rfl | (first | (rw [e15]) | (rw [show M.1 (1 + 9 + 1 + 1 * x.toNat) = E.2 x.toNat from hI.2 x.toNat (by omega)]))
      rw [ha]
      exact ⟨rfl, sX_rfl⟩
  · refine ⟨2, 0, by first | decide | omega, by first | decide | omega, en_Ct_f (X_isPerson (M := M) (e := 1) (E := E) hI hg (x := x) (by omega)) c1 ?_⟩
    refine br_eq_y (by decide) (by decide) (by decide) ?_
    refine aw_85_16 ?_
    refine ⟨2, 0, by first | decide | omega, by first | decide | omega, en_Ct_eq (R_refX (-2) (by omega) M) ?_⟩
    have ha : a_sheetOf E x i = (1, (-2)) := by
      unfold a_sheetOf
      repeat first | rw [if_pos (by omega)] | rw [if_neg (by omega)]
      first | done | rfl | (first | (rw [e15]) | (rw [show M.1 (1 + 9 + 1 + 1 * x.toNat) = E.2 x.toNat from hI.2 x.toNat (by omega)]))
    rw [ha]
    exact ⟨rfl, sX_rfl⟩
theorem PM_sheetOf (E : Ev) (M : Mm) (hJ : isM M 84 E) (hg : s_ok E) (x : Int) (i : Int) (hx : -2147483648 ≤ x ∧ x < 2147483648) (hi : -2147483648 ≤ i ∧ i < 2147483648) : en_Ct 9 0 187 [.inr (.inr (1, 6, 84)), .inl x, .inl i] M (fun r M' => r = some (.inl (a_sheetOf E x i).2) ∧ sM (aM M (a_sheetOf E x i).1) M') := by
  obtain ⟨n0, n1, n2, a0, a1, a2, a3, a4, a5, a6, a7⟩ := hg.1
  have r0 : M.1 84 9 = E.1 0 0 := hJ.1.1
  have r1 : M.1 84 10 = E.1 0 1 := hJ.1.2.1
  have r2 : M.1 84 18 = E.1 0 2 := hJ.1.2.2.1
  have e14 : M.1 113 = E.1 14 := hJ.2.1.2.1
  have s14 : ∀ p, p < 4 → 0 ≤ E.1 14 p ∧ E.1 14 p ≤ 5 := fun p hp => (hg.2.2.1 p hp).1
  have s15 : (0 ≤ x ∧ x < E.1 0 2) → 0 ≤ M.1 113 x.toNat ∧ M.1 113 x.toNat ≤ 5 := fun z => by rw [e14]; exact s14 _ (by omega)
  have e15 : M.1 113 x.toNat = E.1 14 x.toNat := congrFun e14 _
  refine ct_187 rfl ?_
  refine aw_187_0 ?_
  by_cases c1 : 0 ≤ x ∧ x < E.1 0 2
  · refine ⟨2, 0, by first | decide | omega, by first | decide | omega, en_Ct_t (M_isPerson (M := M) (E := E) hJ hg (x := x) (by omega)) c1 ?_⟩
    refine br_eq_n (by decide) (by decide) (by decide) ?_
    refine br_ge (a := i) (b := (-1)) (by omega) (by omega) (fun q3 => ?_) (fun q3 => ?_)
    · refine aw_187_20 ?_
      refine ⟨x.toNat, it_nn (x := x) (by omega), (show x.toNat < 4 by omega), ?_⟩
      refine br_lt (a := i) (b := M.1 113 x.toNat) (by omega) (by omega) (fun q4 => ?_) (fun q4 => ?_)
      · refine aw_187_37 ?_
        refine br_ne (a := i) (b := (-1)) (by omega) (by omega) (fun q5 => ?_) (fun q5 => ?_)
        · refine aw_187_51 ?_
          refine ⟨x.toNat, it_nn (x := x) (by omega), (show x.toNat < 4 by omega), ?_⟩
          refine ⟨i.toNat, it_nn (x := i) (by omega), (show i.toNat < 5 by omega), ?_⟩
          refine aw_187_59 ?_
          have ha : a_sheetOf E x i = (0, M.1 (109 + 1 * x.toNat) i.toNat) := by
            unfold a_sheetOf
            repeat first | rw [if_pos (by omega)] | rw [if_neg (by omega)]
            first | done | rfl | (first | (rw [e15]) | (rw [show M.1 (84 + 24 + 1 + 1 * x.toNat) = E.2 x.toNat from hJ.2.2 x.toNat (by omega)]))
          rw [ha]
          exact ⟨rfl, sM_rfl⟩
        · refine ⟨x.toNat, it_nn (x := x) (by omega), (show x.toNat < 4 by omega), ?_⟩
          refine aw_187_59 ?_
          have ha : a_sheetOf E x i = (0, M.1 113 x.toNat) := by
            unfold a_sheetOf
            repeat first | rw [if_pos (by omega)] | rw [if_neg (by omega)]
            first | done | rfl | (first | (rw [e15]) | (rw [show M.1 (84 + 24 + 1 + 1 * x.toNat) = E.2 x.toNat from hJ.2.2 x.toNat (by omega)]))
          rw [ha]
          exact ⟨rfl, sM_rfl⟩
      · refine ⟨1, 0, by first | decide | omega, by first | decide | omega, en_Ct_eq (R_refM (-5) (by omega) M) ?_⟩
        have ha : a_sheetOf E x i = (4, (-5)) := by
          unfold a_sheetOf
          repeat first | rw [if_pos (by omega)] | rw [if_neg (by omega)]
          first | done | rfl | (first | (rw [e15]) | (rw [show M.1 (84 + 24 + 1 + 1 * x.toNat) = E.2 x.toNat from hJ.2.2 x.toNat (by omega)]))
        rw [ha]
        exact ⟨rfl, sM_rfl⟩
    · refine aw_187_13 ?_
      refine ⟨1, 0, by first | decide | omega, by first | decide | omega, en_Ct_eq (R_refM (-2) (by omega) M) ?_⟩
      have ha : a_sheetOf E x i = (1, (-2)) := by
        unfold a_sheetOf
        repeat first | rw [if_pos (by omega)] | rw [if_neg (by omega)]
        first | done | rfl | (first | (rw [e15]) | (rw [show M.1 (84 + 24 + 1 + 1 * x.toNat) = E.2 x.toNat from hJ.2.2 x.toNat (by omega)]))
      rw [ha]
      exact ⟨rfl, sM_rfl⟩
  · refine ⟨2, 0, by first | decide | omega, by first | decide | omega, en_Ct_f (M_isPerson (M := M) (E := E) hJ hg (x := x) (by omega)) c1 ?_⟩
    refine br_eq_y (by decide) (by decide) (by decide) ?_
    refine aw_187_13 ?_
    refine ⟨1, 0, by first | decide | omega, by first | decide | omega, en_Ct_eq (R_refM (-2) (by omega) M) ?_⟩
    have ha : a_sheetOf E x i = (1, (-2)) := by
      unfold a_sheetOf
      repeat first | rw [if_pos (by omega)] | rw [if_neg (by omega)]
      first | done | rfl | (first | (rw [e15]) | (rw [show M.1 (84 + 24 + 1 + 1 * x.toNat) = E.2 x.toNat from hJ.2.2 x.toNat (by omega)]))
    rw [ha]
    exact ⟨rfl, sM_rfl⟩
theorem ea_sheetOf {E F : Ev} (h : evs E F) (hg : s_ok E) {x : Int} {i : Int} : a_sheetOf E x i = a_sheetOf F x i := by
  have hb := hg.1.2.2.1
  have hw := hg.1.2.1
  unfold a_sheetOf
  rw [← h.1 2 (by decide)]
  split
  · rw [← (h.2.2.2.1 x.toNat (by omega)).1]
    split
    · rfl
    · split
      · rfl
      · rw [h.2.2.2.2 x.toNat i.toNat (by omega) (by omega)]
  · rfl
def a_wordOf (E : Ev) (x : Int) (t : Int) : Nat × Int := if 0 ≤ x ∧ x < E.1 0 1 then (if t = 0 then (0, E.1 2 x.toNat) else if t = 1 then (0, E.1 3 x.toNat) else if t = 2 then (0, E.1 4 x.toNat) else if t = 3 then (0, E.1 5 x.toNat) else if t = 4 then (0, E.1 6 x.toNat) else if t = 5 then (0, E.1 7 x.toNat) else if t = 6 then (0, E.1 8 x.toNat) else if t = 7 then (0, s_cost E x.toNat) else (1, -2)) else (1, -2)
theorem PX_wordOf (E : Ev) (M : Mm) (hI : isE M 1 E) (hg : s_ok E) (x : Int) (t : Int) (hx : -2147483648 ≤ x ∧ x < 2147483648) (ht : -2147483648 ≤ t ∧ t < 2147483648) : en_Ct 9 0 84 [.inr (.inr (1, 5, 0)), .inl x, .inl t] M (fun r M' => r = some (.inl (a_wordOf E x t).2) ∧ sX (aX M (a_wordOf E x t).1) M') := by
  obtain ⟨n0, n1, n2, a0, a1, a2, a3, a4, a5, a6, a7⟩ := hg.1
  have r0 : M.1 1 0 = E.1 0 0 := r0_I hI 0
  have r1 : M.1 1 1 = E.1 0 1 := r0_I hI 1
  have r2 : M.1 1 2 = E.1 0 2 := r0_I hI 2
  have u8 : (0 ≤ x ∧ x < E.1 0 1) → M.1 9 x.toNat = 0 ∨ M.1 9 x.toNat = 1 := fun z => by rw [show M.1 9 = E.1 8 from hI.1 8 (by decide)]; exact hg.2.2.2.2 _ (by omega)
  refine ct_84 rfl ?_
  refine aw_84_0 ?_
  by_cases c1 : 0 ≤ x ∧ x < E.1 0 1
  · refine ⟨2, 0, by first | decide | omega, by first | decide | omega, en_Ct_t (X_isWord (M := M) (e := 1) (E := E) hI hg (x := x) (by omega)) c1 ?_⟩
    refine br_ne_y (by decide) (by decide) (by decide) ?_
    refine aw_84_18 ?_
    refine tb_i (a := t) (by omega) ?_
    refine ⟨fun q3 => ?_, fun q3 => ?_⟩
    · refine aw_84_64 ?_
      refine ⟨x.toNat, it_nn (x := x) (by omega), (show x.toNat < 24 by omega), ?_⟩
      have ha : a_wordOf E x t = (0, M.1 3 x.toNat) := by
        unfold a_wordOf
        repeat first | rw [if_pos (by omega)] | rw [if_neg (by omega)]
        first | done | rfl | (first | (rw [show M.1 3 = E.1 2 from hI.1 2 (by decide)]) | (rw [show M.1 4 = E.1 3 from hI.1 3 (by decide)]) | (rw [show M.1 5 = E.1 4 from hI.1 4 (by decide)]) | (rw [show M.1 6 = E.1 5 from hI.1 5 (by decide)]) | (rw [show M.1 7 = E.1 6 from hI.1 6 (by decide)]) | (rw [show M.1 8 = E.1 7 from hI.1 7 (by decide)]) | (rw [← show M.1 9 = E.1 8 from hI.1 8 (by decide)]; exact congrArg (fun z : Int => (0, z)) (by omega)))
      rw [ha]
      exact ⟨rfl, sX_rfl⟩
    · refine ⟨fun q4 => ?_, fun q4 => ?_⟩
      · refine aw_84_74 ?_
        refine ⟨x.toNat, it_nn (x := x) (by omega), (show x.toNat < 24 by omega), ?_⟩
        have ha : a_wordOf E x t = (0, M.1 4 x.toNat) := by
          unfold a_wordOf
          repeat first | rw [if_pos (by omega)] | rw [if_neg (by omega)]
          first | done | rfl | (first | (rw [show M.1 3 = E.1 2 from hI.1 2 (by decide)]) | (rw [show M.1 4 = E.1 3 from hI.1 3 (by decide)]) | (rw [show M.1 5 = E.1 4 from hI.1 4 (by decide)]) | (rw [show M.1 6 = E.1 5 from hI.1 5 (by decide)]) | (rw [show M.1 7 = E.1 6 from hI.1 6 (by decide)]) | (rw [show M.1 8 = E.1 7 from hI.1 7 (by decide)]) | (rw [← show M.1 9 = E.1 8 from hI.1 8 (by decide)]; exact congrArg (fun z : Int => (0, z)) (by omega)))
        rw [ha]
        exact ⟨rfl, sX_rfl⟩
      · refine ⟨fun q5 => ?_, fun q5 => ?_⟩
        · refine aw_84_84 ?_
          refine ⟨x.toNat, it_nn (x := x) (by omega), (show x.toNat < 24 by omega), ?_⟩
          have ha : a_wordOf E x t = (0, M.1 5 x.toNat) := by
            unfold a_wordOf
            repeat first | rw [if_pos (by omega)] | rw [if_neg (by omega)]
            first | done | rfl | (first | (rw [show M.1 3 = E.1 2 from hI.1 2 (by decide)]) | (rw [show M.1 4 = E.1 3 from hI.1 3 (by decide)]) | (rw [show M.1 5 = E.1 4 from hI.1 4 (by decide)]) | (rw [show M.1 6 = E.1 5 from hI.1 5 (by decide)]) | (rw [show M.1 7 = E.1 6 from hI.1 6 (by decide)]) | (rw [show M.1 8 = E.1 7 from hI.1 7 (by decide)]) | (rw [← show M.1 9 = E.1 8 from hI.1 8 (by decide)]; exact congrArg (fun z : Int => (0, z)) (by omega)))
          rw [ha]
          exact ⟨rfl, sX_rfl⟩
        · refine ⟨fun q6 => ?_, fun q6 => ?_⟩
          · refine aw_84_94 ?_
            refine ⟨x.toNat, it_nn (x := x) (by omega), (show x.toNat < 24 by omega), ?_⟩
            have ha : a_wordOf E x t = (0, M.1 6 x.toNat) := by
              unfold a_wordOf
              repeat first | rw [if_pos (by omega)] | rw [if_neg (by omega)]
              first | done | rfl | (first | (rw [show M.1 3 = E.1 2 from hI.1 2 (by decide)]) | (rw [show M.1 4 = E.1 3 from hI.1 3 (by decide)]) | (rw [show M.1 5 = E.1 4 from hI.1 4 (by decide)]) | (rw [show M.1 6 = E.1 5 from hI.1 5 (by decide)]) | (rw [show M.1 7 = E.1 6 from hI.1 6 (by decide)]) | (rw [show M.1 8 = E.1 7 from hI.1 7 (by decide)]) | (rw [← show M.1 9 = E.1 8 from hI.1 8 (by decide)]; exact congrArg (fun z : Int => (0, z)) (by omega)))
            rw [ha]
            exact ⟨rfl, sX_rfl⟩
          · refine ⟨fun q7 => ?_, fun q7 => ?_⟩
            · refine aw_84_104 ?_
              refine ⟨x.toNat, it_nn (x := x) (by omega), (show x.toNat < 24 by omega), ?_⟩
              have ha : a_wordOf E x t = (0, M.1 7 x.toNat) := by
                unfold a_wordOf
                repeat first | rw [if_pos (by omega)] | rw [if_neg (by omega)]
                first | done | rfl | (first | (rw [show M.1 3 = E.1 2 from hI.1 2 (by decide)]) | (rw [show M.1 4 = E.1 3 from hI.1 3 (by decide)]) | (rw [show M.1 5 = E.1 4 from hI.1 4 (by decide)]) | (rw [show M.1 6 = E.1 5 from hI.1 5 (by decide)]) | (rw [show M.1 7 = E.1 6 from hI.1 6 (by decide)]) | (rw [show M.1 8 = E.1 7 from hI.1 7 (by decide)]) | (rw [← show M.1 9 = E.1 8 from hI.1 8 (by decide)]; exact congrArg (fun z : Int => (0, z)) (by omega)))
              rw [ha]
              exact ⟨rfl, sX_rfl⟩
            · refine ⟨fun q8 => ?_, fun q8 => ?_⟩
              · refine aw_84_114 ?_
                refine ⟨x.toNat, it_nn (x := x) (by omega), (show x.toNat < 24 by omega), ?_⟩
                have ha : a_wordOf E x t = (0, M.1 8 x.toNat) := by
                  unfold a_wordOf
                  repeat first | rw [if_pos (by omega)] | rw [if_neg (by omega)]
                  first | done | rfl | (first | (rw [show M.1 3 = E.1 2 from hI.1 2 (by decide)]) | (rw [show M.1 4 = E.1 3 from hI.1 3 (by decide)]) | (rw [show M.1 5 = E.1 4 from hI.1 4 (by decide)]) | (rw [show M.1 6 = E.1 5 from hI.1 5 (by decide)]) | (rw [show M.1 7 = E.1 6 from hI.1 6 (by decide)]) | (rw [show M.1 8 = E.1 7 from hI.1 7 (by decide)]) | (rw [← show M.1 9 = E.1 8 from hI.1 8 (by decide)]; exact congrArg (fun z : Int => (0, z)) (by omega)))
                rw [ha]
                exact ⟨rfl, sX_rfl⟩
              · refine ⟨fun q9 => ?_, fun q9 => ?_⟩
                · refine aw_84_124 ?_
                  refine ⟨x.toNat, it_nn (x := x) (by omega), (show x.toNat < 24 by omega), ?_⟩
                  refine br_eq (a := M.1 9 x.toNat) (b := 0) (by omega) (by omega) (fun q10 => ?_) (fun q10 => ?_)
                  · refine aw_84_140 ?_
                    refine aw_84_141 ?_
                    have ha : a_wordOf E x t = (0, 0) := by
                      unfold a_wordOf
                      repeat first | rw [if_pos (by omega)] | rw [if_neg (by omega)]
                      first | done | rfl | (first | (rw [show M.1 3 = E.1 2 from hI.1 2 (by decide)]) | (rw [show M.1 4 = E.1 3 from hI.1 3 (by decide)]) | (rw [show M.1 5 = E.1 4 from hI.1 4 (by decide)]) | (rw [show M.1 6 = E.1 5 from hI.1 5 (by decide)]) | (rw [show M.1 7 = E.1 6 from hI.1 6 (by decide)]) | (rw [show M.1 8 = E.1 7 from hI.1 7 (by decide)]) | (rw [← show M.1 9 = E.1 8 from hI.1 8 (by decide)]; exact congrArg (fun z : Int => (0, z)) (by omega)))
                    rw [ha]
                    exact ⟨rfl, sX_rfl⟩
                  · refine aw_84_141 ?_
                    have ha : a_wordOf E x t = (0, 1) := by
                      unfold a_wordOf
                      repeat first | rw [if_pos (by omega)] | rw [if_neg (by omega)]
                      first | done | rfl | (first | (rw [show M.1 3 = E.1 2 from hI.1 2 (by decide)]) | (rw [show M.1 4 = E.1 3 from hI.1 3 (by decide)]) | (rw [show M.1 5 = E.1 4 from hI.1 4 (by decide)]) | (rw [show M.1 6 = E.1 5 from hI.1 5 (by decide)]) | (rw [show M.1 7 = E.1 6 from hI.1 6 (by decide)]) | (rw [show M.1 8 = E.1 7 from hI.1 7 (by decide)]) | (rw [← show M.1 9 = E.1 8 from hI.1 8 (by decide)]; exact congrArg (fun z : Int => (0, z)) (by omega)))
                    rw [ha]
                    exact ⟨rfl, sX_rfl⟩
                · refine ⟨fun q11 => ?_, fun q11 => ?_⟩
                  · refine aw_84_142 ?_
                    refine ⟨1, 0, by first | decide | omega, by first | decide | omega, en_Ct_eq (W_cost (M := M) (e := 1) (E := E) hI hg (x := x) (by omega) (by omega)) ?_⟩
                    have cb12 := s_cost_b (hg.2.1 x.toNat (by omega))
                    have ha : a_wordOf E x t = (0, s_cost E x.toNat) := by
                      unfold a_wordOf
                      repeat first | rw [if_pos (by omega)] | rw [if_neg (by omega)]
                      first | done | rfl | (first | (rw [show M.1 3 = E.1 2 from hI.1 2 (by decide)]) | (rw [show M.1 4 = E.1 3 from hI.1 3 (by decide)]) | (rw [show M.1 5 = E.1 4 from hI.1 4 (by decide)]) | (rw [show M.1 6 = E.1 5 from hI.1 5 (by decide)]) | (rw [show M.1 7 = E.1 6 from hI.1 6 (by decide)]) | (rw [show M.1 8 = E.1 7 from hI.1 7 (by decide)]) | (rw [← show M.1 9 = E.1 8 from hI.1 8 (by decide)]; exact congrArg (fun z : Int => (0, z)) (by omega)))
                    rw [ha]
                    exact ⟨rfl, sX_rfl⟩
                  · refine aw_84_151 ?_
                    refine ⟨2, 0, by first | decide | omega, by first | decide | omega, en_Ct_eq (R_refX (-2) (by omega) M) ?_⟩
                    have ha : a_wordOf E x t = (1, (-2)) := by
                      unfold a_wordOf
                      repeat first | rw [if_pos (by omega)] | rw [if_neg (by omega)]
                      first | done | rfl | (first | (rw [show M.1 3 = E.1 2 from hI.1 2 (by decide)]) | (rw [show M.1 4 = E.1 3 from hI.1 3 (by decide)]) | (rw [show M.1 5 = E.1 4 from hI.1 4 (by decide)]) | (rw [show M.1 6 = E.1 5 from hI.1 5 (by decide)]) | (rw [show M.1 7 = E.1 6 from hI.1 6 (by decide)]) | (rw [show M.1 8 = E.1 7 from hI.1 7 (by decide)]) | (rw [← show M.1 9 = E.1 8 from hI.1 8 (by decide)]; exact congrArg (fun z : Int => (0, z)) (by omega)))
                    rw [ha]
                    exact ⟨rfl, sX_rfl⟩
  · refine ⟨2, 0, by first | decide | omega, by first | decide | omega, en_Ct_f (X_isWord (M := M) (e := 1) (E := E) hI hg (x := x) (by omega)) c1 ?_⟩
    refine br_ne_n (by decide) (by decide) (by decide) ?_
    refine ⟨2, 0, by first | decide | omega, by first | decide | omega, en_Ct_eq (R_refX (-2) (by omega) M) ?_⟩
    have ha : a_wordOf E x t = (1, (-2)) := by
      unfold a_wordOf
      repeat first | rw [if_pos (by omega)] | rw [if_neg (by omega)]
      first | done | rfl | (first | (rw [show M.1 3 = E.1 2 from hI.1 2 (by decide)]) | (rw [show M.1 4 = E.1 3 from hI.1 3 (by decide)]) | (rw [show M.1 5 = E.1 4 from hI.1 4 (by decide)]) | (rw [show M.1 6 = E.1 5 from hI.1 5 (by decide)]) | (rw [show M.1 7 = E.1 6 from hI.1 6 (by decide)]) | (rw [show M.1 8 = E.1 7 from hI.1 7 (by decide)]) | (rw [← show M.1 9 = E.1 8 from hI.1 8 (by decide)]; exact congrArg (fun z : Int => (0, z)) (by omega)))
    rw [ha]
    exact ⟨rfl, sX_rfl⟩
theorem PM_wordOf (E : Ev) (M : Mm) (hJ : isM M 84 E) (hg : s_ok E) (x : Int) (t : Int) (hx : -2147483648 ≤ x ∧ x < 2147483648) (ht : -2147483648 ≤ t ∧ t < 2147483648) : en_Ct 9 0 186 [.inr (.inr (1, 6, 84)), .inl x, .inl t] M (fun r M' => r = some (.inl (a_wordOf E x t).2) ∧ sM (aM M (a_wordOf E x t).1) M') := by
  obtain ⟨n0, n1, n2, a0, a1, a2, a3, a4, a5, a6, a7⟩ := hg.1
  have r0 : M.1 84 9 = E.1 0 0 := hJ.1.1
  have r1 : M.1 84 10 = E.1 0 1 := hJ.1.2.1
  have r2 : M.1 84 18 = E.1 0 2 := hJ.1.2.2.1
  refine ct_186 rfl ?_
  refine aw_186_0 ?_
  by_cases c1 : 0 ≤ x ∧ x < E.1 0 1
  · refine ⟨2, 0, by first | decide | omega, by first | decide | omega, en_Ct_t (M_isWord (M := M) (E := E) hJ hg (x := x) (by omega)) c1 ?_⟩
    refine br_ne_y (by decide) (by decide) (by decide) ?_
    refine aw_186_15 ?_
    refine tb_i (a := t) (by omega) ?_
    refine ⟨fun q3 => ?_, fun q3 => ?_⟩
    · refine aw_186_64 ?_
      refine ⟨x.toNat, it_nn (x := x) (by omega), (show x.toNat < 24 by omega), ?_⟩
      have ha : a_wordOf E x t = (0, M.1 101 x.toNat) := by
        unfold a_wordOf
        repeat first | rw [if_pos (by omega)] | rw [if_neg (by omega)]
        first | done | rfl | (first | (rw [show M.1 101 = E.1 2 from hJ.2.1.2.2.2 2 (by decide) (by decide)]) | (rw [show M.1 102 = E.1 3 from hJ.2.1.2.2.2 3 (by decide) (by decide)]) | (rw [show M.1 103 = E.1 4 from hJ.2.1.2.2.2 4 (by decide) (by decide)]) | (rw [show M.1 104 = E.1 5 from hJ.2.1.2.2.2 5 (by decide) (by decide)]) | (rw [show M.1 105 = E.1 6 from hJ.2.1.2.2.2 6 (by decide) (by decide)]) | (rw [show M.1 106 = E.1 7 from hJ.2.1.2.2.2 7 (by decide) (by decide)]) | (rw [show M.1 107 = E.1 8 from hJ.2.1.2.2.2 8 (by decide) (by decide)]))
      rw [ha]
      exact ⟨rfl, sM_rfl⟩
    · refine ⟨fun q4 => ?_, fun q4 => ?_⟩
      · refine aw_186_71 ?_
        refine ⟨x.toNat, it_nn (x := x) (by omega), (show x.toNat < 24 by omega), ?_⟩
        have ha : a_wordOf E x t = (0, M.1 102 x.toNat) := by
          unfold a_wordOf
          repeat first | rw [if_pos (by omega)] | rw [if_neg (by omega)]
          first | done | rfl | (first | (rw [show M.1 101 = E.1 2 from hJ.2.1.2.2.2 2 (by decide) (by decide)]) | (rw [show M.1 102 = E.1 3 from hJ.2.1.2.2.2 3 (by decide) (by decide)]) | (rw [show M.1 103 = E.1 4 from hJ.2.1.2.2.2 4 (by decide) (by decide)]) | (rw [show M.1 104 = E.1 5 from hJ.2.1.2.2.2 5 (by decide) (by decide)]) | (rw [show M.1 105 = E.1 6 from hJ.2.1.2.2.2 6 (by decide) (by decide)]) | (rw [show M.1 106 = E.1 7 from hJ.2.1.2.2.2 7 (by decide) (by decide)]) | (rw [show M.1 107 = E.1 8 from hJ.2.1.2.2.2 8 (by decide) (by decide)]))
        rw [ha]
        exact ⟨rfl, sM_rfl⟩
      · refine ⟨fun q5 => ?_, fun q5 => ?_⟩
        · refine aw_186_78 ?_
          refine ⟨x.toNat, it_nn (x := x) (by omega), (show x.toNat < 24 by omega), ?_⟩
          have ha : a_wordOf E x t = (0, M.1 103 x.toNat) := by
            unfold a_wordOf
            repeat first | rw [if_pos (by omega)] | rw [if_neg (by omega)]
            first | done | rfl | (first | (rw [show M.1 101 = E.1 2 from hJ.2.1.2.2.2 2 (by decide) (by decide)]) | (rw [show M.1 102 = E.1 3 from hJ.2.1.2.2.2 3 (by decide) (by decide)]) | (rw [show M.1 103 = E.1 4 from hJ.2.1.2.2.2 4 (by decide) (by decide)]) | (rw [show M.1 104 = E.1 5 from hJ.2.1.2.2.2 5 (by decide) (by decide)]) | (rw [show M.1 105 = E.1 6 from hJ.2.1.2.2.2 6 (by decide) (by decide)]) | (rw [show M.1 106 = E.1 7 from hJ.2.1.2.2.2 7 (by decide) (by decide)]) | (rw [show M.1 107 = E.1 8 from hJ.2.1.2.2.2 8 (by decide) (by decide)]))
          rw [ha]
          exact ⟨rfl, sM_rfl⟩
        · refine ⟨fun q6 => ?_, fun q6 => ?_⟩
          · refine aw_186_85 ?_
            refine ⟨x.toNat, it_nn (x := x) (by omega), (show x.toNat < 24 by omega), ?_⟩
            have ha : a_wordOf E x t = (0, M.1 104 x.toNat) := by
              unfold a_wordOf
              repeat first | rw [if_pos (by omega)] | rw [if_neg (by omega)]
              first | done | rfl | (first | (rw [show M.1 101 = E.1 2 from hJ.2.1.2.2.2 2 (by decide) (by decide)]) | (rw [show M.1 102 = E.1 3 from hJ.2.1.2.2.2 3 (by decide) (by decide)]) | (rw [show M.1 103 = E.1 4 from hJ.2.1.2.2.2 4 (by decide) (by decide)]) | (rw [show M.1 104 = E.1 5 from hJ.2.1.2.2.2 5 (by decide) (by decide)]) | (rw [show M.1 105 = E.1 6 from hJ.2.1.2.2.2 6 (by decide) (by decide)]) | (rw [show M.1 106 = E.1 7 from hJ.2.1.2.2.2 7 (by decide) (by decide)]) | (rw [show M.1 107 = E.1 8 from hJ.2.1.2.2.2 8 (by decide) (by decide)]))
            rw [ha]
            exact ⟨rfl, sM_rfl⟩
          · refine ⟨fun q7 => ?_, fun q7 => ?_⟩
            · refine aw_186_92 ?_
              refine ⟨x.toNat, it_nn (x := x) (by omega), (show x.toNat < 24 by omega), ?_⟩
              have ha : a_wordOf E x t = (0, M.1 105 x.toNat) := by
                unfold a_wordOf
                repeat first | rw [if_pos (by omega)] | rw [if_neg (by omega)]
                first | done | rfl | (first | (rw [show M.1 101 = E.1 2 from hJ.2.1.2.2.2 2 (by decide) (by decide)]) | (rw [show M.1 102 = E.1 3 from hJ.2.1.2.2.2 3 (by decide) (by decide)]) | (rw [show M.1 103 = E.1 4 from hJ.2.1.2.2.2 4 (by decide) (by decide)]) | (rw [show M.1 104 = E.1 5 from hJ.2.1.2.2.2 5 (by decide) (by decide)]) | (rw [show M.1 105 = E.1 6 from hJ.2.1.2.2.2 6 (by decide) (by decide)]) | (rw [show M.1 106 = E.1 7 from hJ.2.1.2.2.2 7 (by decide) (by decide)]) | (rw [show M.1 107 = E.1 8 from hJ.2.1.2.2.2 8 (by decide) (by decide)]))
              rw [ha]
              exact ⟨rfl, sM_rfl⟩
            · refine ⟨fun q8 => ?_, fun q8 => ?_⟩
              · refine aw_186_99 ?_
                refine ⟨x.toNat, it_nn (x := x) (by omega), (show x.toNat < 24 by omega), ?_⟩
                have ha : a_wordOf E x t = (0, M.1 106 x.toNat) := by
                  unfold a_wordOf
                  repeat first | rw [if_pos (by omega)] | rw [if_neg (by omega)]
                  first | done | rfl | (first | (rw [show M.1 101 = E.1 2 from hJ.2.1.2.2.2 2 (by decide) (by decide)]) | (rw [show M.1 102 = E.1 3 from hJ.2.1.2.2.2 3 (by decide) (by decide)]) | (rw [show M.1 103 = E.1 4 from hJ.2.1.2.2.2 4 (by decide) (by decide)]) | (rw [show M.1 104 = E.1 5 from hJ.2.1.2.2.2 5 (by decide) (by decide)]) | (rw [show M.1 105 = E.1 6 from hJ.2.1.2.2.2 6 (by decide) (by decide)]) | (rw [show M.1 106 = E.1 7 from hJ.2.1.2.2.2 7 (by decide) (by decide)]) | (rw [show M.1 107 = E.1 8 from hJ.2.1.2.2.2 8 (by decide) (by decide)]))
                rw [ha]
                exact ⟨rfl, sM_rfl⟩
              · refine ⟨fun q9 => ?_, fun q9 => ?_⟩
                · refine aw_186_106 ?_
                  refine ⟨x.toNat, it_nn (x := x) (by omega), (show x.toNat < 24 by omega), ?_⟩
                  have ha : a_wordOf E x t = (0, M.1 107 x.toNat) := by
                    unfold a_wordOf
                    repeat first | rw [if_pos (by omega)] | rw [if_neg (by omega)]
                    first | done | rfl | (first | (rw [show M.1 101 = E.1 2 from hJ.2.1.2.2.2 2 (by decide) (by decide)]) | (rw [show M.1 102 = E.1 3 from hJ.2.1.2.2.2 3 (by decide) (by decide)]) | (rw [show M.1 103 = E.1 4 from hJ.2.1.2.2.2 4 (by decide) (by decide)]) | (rw [show M.1 104 = E.1 5 from hJ.2.1.2.2.2 5 (by decide) (by decide)]) | (rw [show M.1 105 = E.1 6 from hJ.2.1.2.2.2 6 (by decide) (by decide)]) | (rw [show M.1 106 = E.1 7 from hJ.2.1.2.2.2 7 (by decide) (by decide)]) | (rw [show M.1 107 = E.1 8 from hJ.2.1.2.2.2 8 (by decide) (by decide)]))
                  rw [ha]
                  exact ⟨rfl, sM_rfl⟩
                · refine ⟨fun q10 => ?_, fun q10 => ?_⟩
                  · refine aw_186_113 ?_
                    refine ⟨1, 0, by first | decide | omega, by first | decide | omega, en_Ct_eq (V_cost (b := 84) (E := E) (M := M) hJ hg (x := x) (by omega) (by omega)) ?_⟩
                    have cb11 := s_cost_b (hg.2.1 x.toNat (by omega))
                    have ha : a_wordOf E x t = (0, s_cost E x.toNat) := by
                      unfold a_wordOf
                      repeat first | rw [if_pos (by omega)] | rw [if_neg (by omega)]
                      first | done | rfl | (first | (rw [show M.1 101 = E.1 2 from hJ.2.1.2.2.2 2 (by decide) (by decide)]) | (rw [show M.1 102 = E.1 3 from hJ.2.1.2.2.2 3 (by decide) (by decide)]) | (rw [show M.1 103 = E.1 4 from hJ.2.1.2.2.2 4 (by decide) (by decide)]) | (rw [show M.1 104 = E.1 5 from hJ.2.1.2.2.2 5 (by decide) (by decide)]) | (rw [show M.1 105 = E.1 6 from hJ.2.1.2.2.2 6 (by decide) (by decide)]) | (rw [show M.1 106 = E.1 7 from hJ.2.1.2.2.2 7 (by decide) (by decide)]) | (rw [show M.1 107 = E.1 8 from hJ.2.1.2.2.2 8 (by decide) (by decide)]))
                    rw [ha]
                    exact ⟨rfl, sM_rfl⟩
                  · refine aw_186_119 ?_
                    refine ⟨1, 0, by first | decide | omega, by first | decide | omega, en_Ct_eq (R_refM (-2) (by omega) M) ?_⟩
                    have ha : a_wordOf E x t = (1, (-2)) := by
                      unfold a_wordOf
                      repeat first | rw [if_pos (by omega)] | rw [if_neg (by omega)]
                      first | done | rfl | (first | (rw [show M.1 101 = E.1 2 from hJ.2.1.2.2.2 2 (by decide) (by decide)]) | (rw [show M.1 102 = E.1 3 from hJ.2.1.2.2.2 3 (by decide) (by decide)]) | (rw [show M.1 103 = E.1 4 from hJ.2.1.2.2.2 4 (by decide) (by decide)]) | (rw [show M.1 104 = E.1 5 from hJ.2.1.2.2.2 5 (by decide) (by decide)]) | (rw [show M.1 105 = E.1 6 from hJ.2.1.2.2.2 6 (by decide) (by decide)]) | (rw [show M.1 106 = E.1 7 from hJ.2.1.2.2.2 7 (by decide) (by decide)]) | (rw [show M.1 107 = E.1 8 from hJ.2.1.2.2.2 8 (by decide) (by decide)]))
                    rw [ha]
                    exact ⟨rfl, sM_rfl⟩
  · refine ⟨2, 0, by first | decide | omega, by first | decide | omega, en_Ct_f (M_isWord (M := M) (E := E) hJ hg (x := x) (by omega)) c1 ?_⟩
    refine br_ne_n (by decide) (by decide) (by decide) ?_
    refine ⟨1, 0, by first | decide | omega, by first | decide | omega, en_Ct_eq (R_refM (-2) (by omega) M) ?_⟩
    have ha : a_wordOf E x t = (1, (-2)) := by
      unfold a_wordOf
      repeat first | rw [if_pos (by omega)] | rw [if_neg (by omega)]
      first | done | rfl | (first | (rw [show M.1 101 = E.1 2 from hJ.2.1.2.2.2 2 (by decide) (by decide)]) | (rw [show M.1 102 = E.1 3 from hJ.2.1.2.2.2 3 (by decide) (by decide)]) | (rw [show M.1 103 = E.1 4 from hJ.2.1.2.2.2 4 (by decide) (by decide)]) | (rw [show M.1 104 = E.1 5 from hJ.2.1.2.2.2 5 (by decide) (by decide)]) | (rw [show M.1 105 = E.1 6 from hJ.2.1.2.2.2 6 (by decide) (by decide)]) | (rw [show M.1 106 = E.1 7 from hJ.2.1.2.2.2 7 (by decide) (by decide)]) | (rw [show M.1 107 = E.1 8 from hJ.2.1.2.2.2 8 (by decide) (by decide)]))
    rw [ha]
    exact ⟨rfl, sM_rfl⟩
theorem ea_wordOf {E F : Ev} (h : evs E F) (hg : s_ok E) {x : Int} {t : Int} : a_wordOf E x t = a_wordOf F x t := by
  have hb := hg.1.2.2.1
  have hw := hg.1.2.1
  unfold a_wordOf
  rw [← h.1 1 (by decide)]
  split
  · have h24 : x.toNat < 24 := by omega
    rw [ev_r h 2 (by decide) (by decide) h24, ev_r h 3 (by decide) (by decide) h24, ev_r h 4 (by decide) (by decide) h24, ev_r h 5 (by decide) (by decide) h24, ev_r h 6 (by decide) (by decide) h24, ev_r h 7 (by decide) (by decide) h24, ev_r h 8 (by decide) (by decide) h24, ev_cost h h24]
  · rfl
theorem R_letterAt (l t s : Int) (M : Mm) : en_Ct 1 0 123 [.inl l, .inl t, .inl s] M (fun r M' => r = some (.inl (en_rem (l + t * s) 26)) ∧ M' = M) := by
  refine ct_123 rfl ?_
  refine aw_123_0 ?_
  refine ⟨by decide, ?_⟩
  exact ⟨rfl, rfl⟩
def a_silent (E : Ev) (l : Int) (t : Int) (s : Int) : Nat × Int := if (0 ≤ l ∧ l ≤ 25) ∧ (1 ≤ t ∧ t ≤ 26) ∧ 0 ≤ s ∧ s ≤ 1000 then (0, en_rem (l + t * s) 26) else (1, -2)
theorem PX_silent (E : Ev) (M : Mm) (hI : isE M 1 E) (hg : s_ok E) (l : Int) (t : Int) (s : Int) (hl : -2147483648 ≤ l ∧ l < 2147483648) (ht : -2147483648 ≤ t ∧ t < 2147483648) (hs : -2147483648 ≤ s ∧ s < 2147483648) : en_Ct 9 0 101 [.inr (.inr (1, 5, 0)), .inl l, .inl t, .inl s] M (fun r M' => r = some (.inl (a_silent E l t s).2) ∧ sX (aX M (a_silent E l t s).1) M') := by
  obtain ⟨n0, n1, n2, a0, a1, a2, a3, a4, a5, a6, a7⟩ := hg.1
  have r0 : M.1 1 0 = E.1 0 0 := r0_I hI 0
  have r1 : M.1 1 1 = E.1 0 1 := r0_I hI 1
  have r2 : M.1 1 2 = E.1 0 2 := r0_I hI 2
  refine ct_101 rfl ?_
  refine aw_101_0 ?_
  by_cases c1 : 0 ≤ l ∧ l ≤ 25
  · refine ⟨2, 0, by first | decide | omega, by first | decide | omega, en_Ct_t (R_isLetter l (by omega) _) c1 ?_⟩
    refine br_eq_n (by decide) (by decide) (by decide) ?_
    by_cases c3 : 1 ≤ t ∧ t ≤ 26
    · refine ⟨1, 0, by first | decide | omega, by first | decide | omega, en_Ct_t (R_within t 1 26 (by omega) (by omega) (by omega) _) c3 ?_⟩
      refine br_eq_n (by decide) (by decide) (by decide) ?_
      by_cases c5 : 0 ≤ s ∧ s ≤ 1000
      · refine ⟨1, 0, by first | decide | omega, by first | decide | omega, en_Ct_t (R_within s 0 1000 (by omega) (by omega) (by omega) _) c5 ?_⟩
        refine br_ne_y (by decide) (by decide) (by decide) ?_
        refine aw_101_35 ?_
        refine ⟨1, 0, by first | decide | omega, by first | decide | omega, en_Ct_eq (R_letterAt l t s _) ?_⟩
        have ha : a_silent E l t s = (0, en_rem (l + t * s) 26) := by
          unfold a_silent
          repeat first | rw [if_pos (by omega)] | rw [if_neg (by omega)]
          first | done | rfl | (rfl)
        rw [ha]
        exact ⟨rfl, sX_rfl⟩
      · refine ⟨1, 0, by first | decide | omega, by first | decide | omega, en_Ct_f (R_within s 0 1000 (by omega) (by omega) (by omega) _) c5 ?_⟩
        refine br_ne_n (by decide) (by decide) (by decide) ?_
        refine aw_101_28 ?_
        refine ⟨2, 0, by first | decide | omega, by first | decide | omega, en_Ct_eq (R_refX (-2) (by omega) M) ?_⟩
        have ha : a_silent E l t s = (1, (-2)) := by
          unfold a_silent
          repeat first | rw [if_pos (by omega)] | rw [if_neg (by omega)]
          first | done | rfl | (rfl)
        rw [ha]
        exact ⟨rfl, sX_rfl⟩
    · refine ⟨1, 0, by first | decide | omega, by first | decide | omega, en_Ct_f (R_within t 1 26 (by omega) (by omega) (by omega) _) c3 ?_⟩
      refine br_eq_y (by decide) (by decide) (by decide) ?_
      refine aw_101_28 ?_
      refine ⟨2, 0, by first | decide | omega, by first | decide | omega, en_Ct_eq (R_refX (-2) (by omega) M) ?_⟩
      have ha : a_silent E l t s = (1, (-2)) := by
        unfold a_silent
        repeat first | rw [if_pos (by omega)] | rw [if_neg (by omega)]
        first | done | rfl | (rfl)
      rw [ha]
      exact ⟨rfl, sX_rfl⟩
  · refine ⟨2, 0, by first | decide | omega, by first | decide | omega, en_Ct_f (R_isLetter l (by omega) _) c1 ?_⟩
    refine br_eq_y (by decide) (by decide) (by decide) ?_
    refine aw_101_28 ?_
    refine ⟨2, 0, by first | decide | omega, by first | decide | omega, en_Ct_eq (R_refX (-2) (by omega) M) ?_⟩
    have ha : a_silent E l t s = (1, (-2)) := by
      unfold a_silent
      repeat first | rw [if_pos (by omega)] | rw [if_neg (by omega)]
      first | done | rfl | (rfl)
    rw [ha]
    exact ⟨rfl, sX_rfl⟩
theorem PM_silent (E : Ev) (M : Mm) (hJ : isM M 84 E) (hg : s_ok E) (l : Int) (t : Int) (s : Int) (hl : -2147483648 ≤ l ∧ l < 2147483648) (ht : -2147483648 ≤ t ∧ t < 2147483648) (hs : -2147483648 ≤ s ∧ s < 2147483648) : en_Ct 9 0 226 [.inr (.inr (1, 6, 84)), .inl l, .inl t, .inl s] M (fun r M' => r = some (.inl (a_silent E l t s).2) ∧ sM (aM M (a_silent E l t s).1) M') := by
  obtain ⟨n0, n1, n2, a0, a1, a2, a3, a4, a5, a6, a7⟩ := hg.1
  have r0 : M.1 84 9 = E.1 0 0 := hJ.1.1
  have r1 : M.1 84 10 = E.1 0 1 := hJ.1.2.1
  have r2 : M.1 84 18 = E.1 0 2 := hJ.1.2.2.1
  refine ct_226 rfl ?_
  refine aw_226_0 ?_
  by_cases c1 : 0 ≤ l ∧ l ≤ 25
  · refine ⟨1, 0, by first | decide | omega, by first | decide | omega, en_Ct_t (R_in (en_wr l) 0 25 l 0 25 (wl_wr ⟨by omega, by omega⟩) (wl_of ⟨by omega, by omega⟩) (wl_of ⟨by omega, by omega⟩) _) c1 ?_⟩
    refine br_eq_n (by decide) (by decide) (by decide) ?_
    by_cases c3 : 1 ≤ t ∧ t ≤ 26
    · refine ⟨1, 0, by first | decide | omega, by first | decide | omega, en_Ct_t (R_in (en_wr t) 1 26 t 1 26 (wl_wr ⟨by omega, by omega⟩) (wl_of ⟨by omega, by omega⟩) (wl_of ⟨by omega, by omega⟩) _) c3 ?_⟩
      refine br_eq_n (by decide) (by decide) (by decide) ?_
      by_cases c5 : 0 ≤ s ∧ s ≤ 1000
      · refine ⟨1, 0, by first | decide | omega, by first | decide | omega, en_Ct_t (R_in (en_wr s) 0 1000 s 0 1000 (wl_wr ⟨by omega, by omega⟩) (wl_of ⟨by omega, by omega⟩) (wl_of ⟨by omega, by omega⟩) _) c5 ?_⟩
        refine br_eq_n (by decide) (by decide) (by decide) ?_
        refine ⟨by decide, ?_⟩
        refine aw_226_53 ?_
        have ha : a_silent E l t s = (0, en_rem (l + (t * s)) 26) := by
          unfold a_silent
          repeat first | rw [if_pos (by omega)] | rw [if_neg (by omega)]
          first | done | rfl | (rfl)
        rw [ha]
        exact ⟨rfl, sM_rfl⟩
      · refine ⟨1, 0, by first | decide | omega, by first | decide | omega, en_Ct_f (R_in (en_wr s) 0 1000 s 0 1000 (wl_wr ⟨by omega, by omega⟩) (wl_of ⟨by omega, by omega⟩) (wl_of ⟨by omega, by omega⟩) _) c5 ?_⟩
        refine br_eq_y (by decide) (by decide) (by decide) ?_
        refine aw_226_47 ?_
        refine ⟨1, 0, by first | decide | omega, by first | decide | omega, en_Ct_eq (R_refM (-2) (by omega) M) ?_⟩
        refine aw_226_53 ?_
        have ha : a_silent E l t s = (1, (-2)) := by
          unfold a_silent
          repeat first | rw [if_pos (by omega)] | rw [if_neg (by omega)]
          first | done | rfl | (rfl)
        rw [ha]
        exact ⟨rfl, sM_rfl⟩
    · refine ⟨1, 0, by first | decide | omega, by first | decide | omega, en_Ct_f (R_in (en_wr t) 1 26 t 1 26 (wl_wr ⟨by omega, by omega⟩) (wl_of ⟨by omega, by omega⟩) (wl_of ⟨by omega, by omega⟩) _) c3 ?_⟩
      refine br_eq_y (by decide) (by decide) (by decide) ?_
      refine aw_226_47 ?_
      refine ⟨1, 0, by first | decide | omega, by first | decide | omega, en_Ct_eq (R_refM (-2) (by omega) M) ?_⟩
      refine aw_226_53 ?_
      have ha : a_silent E l t s = (1, (-2)) := by
        unfold a_silent
        repeat first | rw [if_pos (by omega)] | rw [if_neg (by omega)]
        first | done | rfl | (rfl)
      rw [ha]
      exact ⟨rfl, sM_rfl⟩
  · refine ⟨1, 0, by first | decide | omega, by first | decide | omega, en_Ct_f (R_in (en_wr l) 0 25 l 0 25 (wl_wr ⟨by omega, by omega⟩) (wl_of ⟨by omega, by omega⟩) (wl_of ⟨by omega, by omega⟩) _) c1 ?_⟩
    refine br_eq_y (by decide) (by decide) (by decide) ?_
    refine aw_226_47 ?_
    refine ⟨1, 0, by first | decide | omega, by first | decide | omega, en_Ct_eq (R_refM (-2) (by omega) M) ?_⟩
    refine aw_226_53 ?_
    have ha : a_silent E l t s = (1, (-2)) := by
      unfold a_silent
      repeat first | rw [if_pos (by omega)] | rw [if_neg (by omega)]
      first | done | rfl | (rfl)
    rw [ha]
    exact ⟨rfl, sM_rfl⟩
theorem ea_silent {E F : Ev} (h : evs E F) (hg : s_ok E) {l : Int} {t : Int} {s : Int} : a_silent E l t s = a_silent F l t s := by
  have hb := hg.1.2.2.1
  have hw := hg.1.2.1
  unfold a_silent
  rfl
