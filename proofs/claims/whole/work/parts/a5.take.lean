theorem same_upE {kx km hx hm : Nat} {as : List AV} {f : Ev → Nat × Int} {u : Ev → Ev} (h60 : hx < 60) (g60 : hm < 60)
    (hX : ∀ E M, isE M 1 E → s_ok E → en_Ct hx 0 kx (.inr (.inr (1, 5, 0)) :: as) M (fun r M' => r = some (.inl (f E).2) ∧ (((f E).1 ≠ 0 ∧ sX (aX M (f E).1) M') ∨ ((f E).1 = 0 ∧ xE M M' ∧ isE M' 1 (u E)))))
    (hM : ∀ E M, isM M 84 E → s_ok E → en_Ct hm 0 km (.inr (.inr (1, 6, 84)) :: as) M (fun r M' => r = some (.inl (f E).2) ∧ (((f E).1 ≠ 0 ∧ sM (aM M (f E).1) M') ∨ ((f E).1 = 0 ∧ mE M M' ∧ ∃ X, isM M' 84 X ∧ evs (u E) X))))
    (hv : ∀ E F, evs E F → s_ok E → f E = f F) (hk : ∀ E, (f E).1 ≤ 5) (hu : ∀ E F, evs E F → s_ok E → (f E).1 = 0 → evs (u E) (u F) ∧ s_ok (u E) ∧ E.1 0 1 ≤ (u E).1 0 1) : sameC kx km as := by
  intro M hc
  refine ⟨hx, h60, en_Ct_mono (hX (vE M 1) M isE_self hc.1.1) ?_⟩
  rintro r M1 ⟨rfl, hs⟩
  have e := hv _ _ hc.1.2 hc.1.1
  have hg := ev_ok hc.1.2 hc.1.1
  have h84 : ∀ a, 84 ≤ a → M1.1 a = M.1 a := by
    intro a ha
    rcases hs with ⟨-, hs⟩ | ⟨-, hs, -⟩
    · exact (hs.1 a (by omega)).trans (aX_84 a ha)
    · exact hs.1 a (by omega)
  refine ⟨_, rfl, hm, 0, g60, Nat.zero_le _, en_Ct_mono (hM (vM M 84) M1 (isM_x isM_self h84) hg) ?_⟩
  rintro r M2 ⟨rfl, hs2⟩
  rw [← e] at hs2 ⊢
  rcases hs with ⟨h0, hs⟩ | ⟨h0, hs, hs'⟩
  · rcases hs2 with ⟨-, hs2⟩ | ⟨z, -⟩
    · cases hq : (f (vE M 1)).1 with
      | zero => exact absurd hq h0
      | succ k =>
        rw [hq] at hs hs2
        have := hk (vE M 1)
        refine ⟨rfl, cpl_ro (cpl_rf hc (k := k) (by omega)) (sX_rfM hs) hs2, ?_⟩
        rw [bl_eq (M1 := M2) (M := M) (fun i hi => by rw [hs2.2.1 i (by omega)]; show (rfM M1 k).1 84 i = _; simp only [rfM, en_wI]; exact congrFun (h84 84 (by omega)) i)]
        omega
    · exact absurd z h0
  · rcases hs2 with ⟨z, -⟩ | ⟨-, hs2, X, hs2', hX2⟩
    · exact absurd h0 z
    · obtain ⟨u1, u2, u3⟩ := hu _ _ hc.1.2 hc.1.1 h0
      have v1 : evs (vE M2 1) (u (vE M 1)) := evs_tr (vE_fr (fun a z0 z1 => hs2.1 a (by omega))) (isE_evs hs')
      refine ⟨rfl, cpl_E hc ⟨fun a ha => (hs2.1 a (by omega)).trans (hs.1 a (by omega)), by rw [hs2.1 61 (by omega)]; exact hs.2.1, ⟨by rw [hs2.2.1 7 (by omega), h84 84 (by omega)], by rw [hs2.2.1 24 (by omega), h84 84 (by omega)]⟩, fun a ha => (hs2.2.2 a (by omega)).trans (hs.2.2 a (by omega))⟩ ?_ (ev_ok (evs_symm v1) u2) (evs_tr v1 (evs_tr u1 (evs_tr hX2 (evs_symm (isM_vM hs2'))))), ?_⟩
      · have := v1.1 1 (by decide)
        show (vE M 1).1 0 1 ≤ (vE M2 1).1 0 1
        omega
      · rw [bl_eq (M1 := M2) (M := M) (fun i hi => by rw [hs2.2.1 i (by omega), h84 84 (by omega)])]
        omega
theorem bst_set {E : Ev} (hg : s_ok E) {p : Nat} : (bst E p).2.1 < 2 ^ 24 ∧ ∀ v, (bst E p).2.1.testBit v = true → v ∈ lin E p := by
  obtain ⟨v1, v2, -⟩ := bst_lf hg (p := p)
  have hsub : List.Sublist (lf E p (bst E p).2.1) (lin E p) := List.filter_sublist
  have hm : ∀ v, (bst E p).2.1.testBit v = true → v ∈ lin E p := fun v hv => by
    have : v ∈ lf E p (bst E p).2.1 := by
      have h2 := bts_bit (lf E p (bst E p).2.1) v
      rw [v2, hv] at h2
      exact of_decide_eq_true h2.symm
    exact hsub.subset this
  refine ⟨?_, hm⟩
  rw [← v2]
  refine bts_lt _ (fun w hw => ?_)
  have := (lin_mem.mp (hsub.subset hw)).1
  have := hg.1.2.1
  omega
/-- the reference takes it over -/
theorem M_tb {E : Ev} {M K : Mm} (hg : s_ok E) {p : Nat} (hp : p < 4) (hQ : isQ K 84 E p) (hFT : frT 84 p M K) (w1 : K.1 84 35 = (((bst E p).2.1 : Nat) : Int)) : en_Ct 2 0 213 [.inr (.inr (1, 6, 84)), .inl ((p : Nat) : Int), .inl (K.1 84 35)] K (fun r M' => r = none ∧ mE M M' ∧ M'.1 84 = K.1 84 ∧ ∃ X, isM M' 84 X ∧ evs (u_best E p) X) := by
  rw [w1]
  refine en_Ct_mono (R_writes 84 E hg p hp K hQ (bst E p).2.1 (bst_set hg).1 (bst_set hg).2 (bst_lf hg).1) ?_
  rintro r M' ⟨h1, h2, h3, h4, h5, h6⟩
  refine ⟨h1, ⟨fun a ha => ?_, fun i hi => ?_, fun a _ => by rw [h4, hFT.2.2]⟩, h3 84 (by decide) (by omega), mkX M' 84 E, h2.1, evs_symm h5⟩
  · rw [h3 a (by omega) (by omega)]; exact hFT.1 a (by omega) (by omega) (by omega) (by omega)
  · rw [h3 84 (by decide) (by omega)]; exact hFT.2.1 i (by omega) (by omega) (by omega)
def a_takeBest (E : Ev) (x : Int) : Nat × Int := if 0 ≤ x ∧ x < E.1 0 2 then (0, (bst E x.toNat).1) else (1, -2)
theorem PX_takeBest (E : Ev) (M : Mm) (hI : isE M 1 E) (hg : s_ok E) (x : Int) (hx : -2147483648 ≤ x ∧ x < 2147483648) : en_Ct 12 0 111 [.inr (.inr (1, 5, 0)), .inl x] M (fun r M' => r = some (.inl (a_takeBest E x).2) ∧ (((a_takeBest E x).1 ≠ 0 ∧ sX (aX M (a_takeBest E x).1) M') ∨ ((a_takeBest E x).1 = 0 ∧ xE M M' ∧ isE M' 1 (u_best E x.toNat)))) := by
  obtain ⟨n0, n1, n2, a0, a1, a2, a3, a4, a5, a6, a7⟩ := hg.1
  have r0 : M.1 1 0 = E.1 0 0 := r0_I hI 0
  have r1 : M.1 1 1 = E.1 0 1 := r0_I hI 1
  have r2 : M.1 1 2 = E.1 0 2 := r0_I hI 2
  refine ct_111 rfl ?_
  refine aw_111_0 ?_
  by_cases c1 : 0 ≤ x ∧ x < E.1 0 2
  · refine ⟨2, 0, by first | decide | omega, by first | decide | omega, en_Ct_t (X_isPerson (M := M) (e := 1) (E := E) hI hg (x := x) (by omega)) c1 ?_⟩
    refine br_eq_n (by decide) (by decide) (by decide) ?_
    obtain ⟨p, rfl⟩ := Int.eq_ofNat_of_zero_le (show 0 ≤ x by omega)
    refine ⟨10, 0, by first | decide | omega, by first | decide | omega, en_Ct_mono (R_pbs E M hI hg p (by omega)) ?_⟩
    rintro _ K ⟨rfl, hxe, hIe⟩
    refine aw_111_25 ?_
    have ha : a_takeBest E ((p : Nat) : Int) = (0, (bst E p).1) := by
      unfold a_takeBest
      rw [if_pos (by omega), Int.toNat_natCast]
    rw [ha]
    exact ⟨rfl, Or.inr ⟨rfl, hxe, hIe⟩⟩
  · refine ⟨2, 0, by first | decide | omega, by first | decide | omega, en_Ct_f (X_isPerson (M := M) (e := 1) (E := E) hI hg (x := x) (by omega)) c1 ?_⟩
    refine br_eq_y (by decide) (by decide) (by decide) ?_
    refine aw_111_19 ?_
    refine ⟨2, 0, by first | decide | omega, by first | decide | omega, en_Ct_eq (R_refX (-2) (by omega) M) ?_⟩
    refine aw_111_25 ?_
    have ha : a_takeBest E x = (1, (-2)) := by
      unfold a_takeBest
      repeat first | rw [if_pos (by omega)] | rw [if_neg (by omega)]
    rw [ha]
    exact ⟨rfl, Or.inl ⟨by decide, sX_rfl⟩⟩
theorem PM_takeBest (E : Ev) (M : Mm) (hJ : isM M 84 E) (hg : s_ok E) (x : Int) (hx : -2147483648 ≤ x ∧ x < 2147483648) : en_Ct 20 0 228 [.inr (.inr (1, 6, 84)), .inl x] M (fun r M' => r = some (.inl (a_takeBest E x).2) ∧ (((a_takeBest E x).1 ≠ 0 ∧ sM (aM M (a_takeBest E x).1) M') ∨ ((a_takeBest E x).1 = 0 ∧ mE M M' ∧ ∃ X, isM M' 84 X ∧ evs (u_best E x.toNat) X))) := by
  obtain ⟨n0, n1, n2, a0, a1, a2, a3, a4, a5, a6, a7⟩ := hg.1
  have r0 : M.1 84 9 = E.1 0 0 := hJ.1.1
  have r1 : M.1 84 10 = E.1 0 1 := hJ.1.2.1
  have r2 : M.1 84 18 = E.1 0 2 := hJ.1.2.2.1
  refine ct_228 rfl ?_
  refine aw_228_0 ?_
  by_cases c1 : 0 ≤ x ∧ x < E.1 0 2
  · refine ⟨2, 0, by first | decide | omega, by first | decide | omega, en_Ct_t (M_isPerson (M := M) (E := E) hJ hg (x := x) (by omega)) c1 ?_⟩
    refine br_ne_y (by decide) (by decide) (by decide) ?_
    obtain ⟨p, rfl⟩ := Int.eq_ofNat_of_zero_le (show 0 ≤ x by omega)
    refine aw_228_15 ?_
    refine ⟨14, 0, by first | decide | omega, by first | decide | omega, en_Ct_mono (R_findBest 84 E hg p (by omega) M (isQ_M hJ)) ?_⟩
    rintro _ K ⟨rfl, hFT, hQT, w0, w1, w2⟩
    refine ⟨2, 0, by first | decide | omega, by first | decide | omega, en_Ct_mono (M_tb hg (by omega) hQT hFT w1) ?_⟩
    rintro _ K2 ⟨rfl, hme, h84, hXX⟩
    have e36 : K2.1 84 36 = (bst E p).1 := by rw [h84]; exact w0
    have ha : a_takeBest E ((p : Nat) : Int) = (0, (bst E p).1) := by
      unfold a_takeBest
      rw [if_pos (by omega), Int.toNat_natCast]
    rw [ha]
    exact ⟨congrArg (fun z => some (Sum.inl z)) e36, Or.inr ⟨rfl, hme, hXX⟩⟩
  · refine ⟨2, 0, by first | decide | omega, by first | decide | omega, en_Ct_f (M_isPerson (M := M) (E := E) hJ hg (x := x) (by omega)) c1 ?_⟩
    refine br_ne_n (by decide) (by decide) (by decide) ?_
    refine ⟨1, 0, by first | decide | omega, by first | decide | omega, en_Ct_eq (R_refM (-2) (by omega) M) ?_⟩
    have ha : a_takeBest E x = (1, (-2)) := by
      unfold a_takeBest
      repeat first | rw [if_pos (by omega)] | rw [if_neg (by omega)]
    rw [ha]
    exact ⟨rfl, Or.inl ⟨by decide, sM_rfl⟩⟩
theorem S_takeBest {x : Int} (hx : -2147483648 ≤ x ∧ x < 2147483648) : sameC 111 228 [.inl x] := same_upE (hx := 12) (hm := 20) (f := fun E => a_takeBest E x) (u := fun E => u_best E x.toNat) (by decide) (by decide) (fun E M h1 h2 => PX_takeBest E M h1 h2 x hx) (fun E M h1 h2 => PM_takeBest E M h1 h2 x hx) (fun E F h1 h2 => by show a_takeBest E x = a_takeBest F x; unfold a_takeBest; rw [h1.1 2 (by decide), ev_bst h1 h2]) (fun E => by show (a_takeBest E x).1 ≤ 5; unfold a_takeBest; (repeat' split) <;> exact Nat.le_of_ble_eq_true rfl) (fun E F h1 h2 _ => ⟨ev_ub h1 h2, ok_ub h2, Int.le_refl _⟩)
/-! rounds -/
def u_dr (E : Ev) : Ev := upr (upr E 0 3 (E.1 0 3 * 1103515245 + 12345)) 1 0 (draw (E.1 0 3))
def u_bp (E : Ev) : Nat → Ev
  | 0 => E
  | n + 1 => u_best (u_bp E n) n
def u_rn (E : Ev) : Nat → Ev
  | 0 => E
  | n + 1 => u_round (u_bp (u_dr (u_rn E n)) (E.1 0 2).toNat)
theorem ok_dr {E : Ev} (hg : s_ok E) : s_ok (u_dr E) := by
  unfold u_dr
  have h1 := ok_up (r := 0) (i := 3) (v := E.1 0 3 * 1103515245 + 12345) hg (num_n hg.1 (by omega)) (wok_n hg.2.1 (by omega)) (by omega) (by decide) (by omega) (by omega)
  refine ok_up h1 ?_ (wok_n h1.2.1 (by omega)) (by omega) (by decide) (by omega) (by omega)
  have hd := draw_b (E.1 0 3)
  have hn := h1.1
  unfold s_num at hn ⊢
  rw [upr_n (q := 0) (by omega), upr_n (q := 0) (by omega), upr_n (q := 0) (by omega), upr_s]
  rw [upr_n (q := 1) (j := 1) (by omega), upr_n (q := 1) (j := 2) (by omega), upr_n (q := 1) (j := 3) (by omega), upr_n (q := 1) (j := 4) (by omega), upr_n (q := 1) (j := 5) (by omega), upr_n (q := 1) (j := 6) (by omega), upr_n (q := 1) (j := 7) (by omega)]
  exact ⟨hn.1, hn.2.1, hn.2.2.1, hd, hn.2.2.2.2⟩
theorem ev_dr {E F : Ev} (h : evs E F) : evs (u_dr E) (u_dr F) := by
  unfold u_dr
  rw [← h.1 3 (by decide)]
  exact ev_upr (ev_upr h (by decide) _) (by decide) _
theorem ok_bp {E : Ev} (hg : s_ok E) : ∀ n, s_ok (u_bp E n)
  | 0 => hg
  | n + 1 => ok_ub (ok_bp hg n)
theorem ev_bp {E F : Ev} (h : evs E F) (hg : s_ok E) : ∀ n, evs (u_bp E n) (u_bp F n)
  | 0 => h
  | n + 1 => ev_ub (ev_bp h hg n) (ok_bp hg n)
theorem bp_0 {E : Ev} : ∀ n i, (u_bp E n).1 0 i = E.1 0 i
  | 0, _ => rfl
  | n + 1, i => bp_0 n i
theorem rn_0 {E : Ev} : ∀ n i, i ≠ 3 → (u_rn E n).1 0 i = E.1 0 i
  | 0, _, _ => rfl
  | n + 1, i, hi => by
    show (u_bp (u_dr (u_rn E n)) (E.1 0 2).toNat).1 0 i = _
    rw [bp_0]
    show (upr (upr (u_rn E n) 0 3 _) 1 0 _).1 0 i = _
    rw [upr_n (by omega), upr_n (by omega), rn_0 n i hi]
theorem ok_rn {E : Ev} (hg : s_ok E) : ∀ n, s_ok (u_rn E n)
  | 0 => hg
  | n + 1 => ok_ur (ok_bp (ok_dr (ok_rn hg n)) _)
theorem ev_rn {E F : Ev} (h : evs E F) (hg : s_ok E) : ∀ n, evs (u_rn E n) (u_rn F n)
  | 0 => h
  | n + 1 => by
    rw [u_rn, u_rn, ← ev_pp h]
    exact ev_ur (ev_bp (ev_dr (ev_rn h hg n)) (ok_dr (ok_rn hg n)) _) (ok_bp (ok_dr (ok_rn hg n)) _)
def a_rounds (E : Ev) (n : Int) : Nat × Int := if 1 ≤ n ∧ n ≤ 9 then (if E.1 0 2 = 0 then (4, -5) else (0, ((s_fs (u_rn E n.toNat) (E.1 0 2).toNat : Nat) : Int))) else (1, -2)
