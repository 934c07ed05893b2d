theorem op_no {col f : Nat → Int} {c : Int} : ∀ n i, (∀ k, i ≤ k → k < i + n → col (f k).toNat ≠ c) → s_op col f c n i = none
  | 0, _, _ => rfl
  | n + 1, i, h => by rw [s_op, if_neg (h i (Nat.le_refl _) (by omega)), op_no n (i + 1) (fun k h1 h2 => h k (by omega) (by omega))]
/-- what a fresh copy says -/
theorem fr_ev {M M1 : Mm} {E : Ev} (hJ : isM M 84 E) (hg : s_ok E) (h : frP M M1) : isM M1 84 E ∧ evs (vM M1 121) E ∧ s_ok (vM M1 121) := by
  have e1 := isM_vM hJ
  have h1 : isM M1 84 E := isM_fr hJ (fun i hi => h.2.1 i (by omega)) (fun a h0 h1 => h.2.2.1 a (by omega) (by omega))
  have h2 : evs (vM M1 121) (vM M 84) := evq_evs h.2.2.2.2 (fun p hp => by
    rw [(h.2.2.2.2.2.2.2.1 p hp).1, (e1.2.2.2.1 p hp).1]
    exact (hg.2.2.1 p hp).1.2)
  have h3 := evs_tr h2 e1
  exact ⟨h1, h3, ev_ok (evs_symm h3) hg⟩
theorem fr_mF {M M1 K : Mm} (h : frP M M1) (hK : ∀ a, a < 121 ∨ 158 ≤ a → K.1 a = M1.1 a) (hL : ∀ a, a < 121 ∨ 158 ≤ a → K.2 a = M1.2 a) : mF M K ∧ (if M.1 84 25 = 0 then 1 else 0) + bl K ≤ bl M := by
  refine ⟨⟨fun a ha => by rw [hK a (by omega)]; exact h.2.2.1 a (by omega) (by omega), fun i hi => by rw [hK 84 (by omega)]; exact h.2.1 i (by omega), fun a ha => by rw [hL a (by omega)]; exact h.2.2.2.1 a (by omega)⟩, ?_⟩
  have h1 := bl_fr h
  have h2 : bl K = bl M1 := bl_eq (fun i _ => by rw [hK 84 (by omega)])
  omega
theorem M_canT {K : Mm} {E E3 : Ev} (hJ : isM K 84 E) (hg : s_ok E) (hev : evs E3 E) {p i : Nat} (hp : p < 4) (hi : (i : Int) < E.1 0 1) : en_Ct 1 0 164 [.inr (.inr (1, 6, 84)), .inl ((p : Nat) : Int), .inl ((i : Nat) : Int)] K (fun r M' => r = some (.inl (if s_can E3 p i = true then 1 else 0)) ∧ M' = K) := by
  have := V_can (b := 84) hJ hg (p := p) (x := ((i : Nat) : Int)) hp (by omega) hi
  rw [Int.toNat_natCast, ← ev_can hev p (by have := hg.1.2.1; omega)] at this
  exact this
theorem L_bwp {post : Option AV → Mm → Prop} (bm b1 : Nat) (E : Ev) (M : Mm) (hJ : isM M 84 E) (hg : s_ok E) (p : Nat) (c : Int) (hp4 : p < 4) (hc : 0 ≤ c ∧ c < E.1 0 0) (hx : en_AW 9 bm 218 post 91 [some (.inr (.inr (1, 6, 84))), some (.inl ((p : Nat) : Int)), some (.inl c), some (.inr (.inr (1, 6, 121))), some (.inl ((s_pl E p c : Nat) : Int)), none, none, none, none] [] M b1) : ∀ (n : Nat) (i : Nat) (v : Int), (((i : Nat) : Int) + ((n : Nat) : Int) = E.1 14 p) → (((∀ k, k < i → E.1 4 (E.2 p k).toNat ≠ c) ∧ v = E.1 14 p) ∨ ∃ j : Nat, j < i ∧ E.1 4 (E.2 p j).toNat = c ∧ v = (j : Int)) → en_AW 9 bm 218 post 47 [some (.inr (.inr (1, 6, 84))), some (.inl ((p : Nat) : Int)), some (.inl c), some (.inr (.inr (1, 6, 121))), some (.inl v), some (.inl ((i : Nat) : Int)), none, none, none] [] M b1 := by
  intro n
  induction n with
  | zero =>
    intro i v hi hv
    obtain ⟨n0, n1, n2, a0, a1, a2, a3, a4, a5, a6, a7⟩ := hg.1
    have e14 : M.1 113 p = E.1 14 p := congrFun hJ.2.1.2.1 p
    obtain ⟨s1, s2⟩ := hg.2.2.1 p hp4
    refine aw_218_47 ?_
    refine ⟨p, rfl, (show p < 4 by omega), ?_⟩
    refine br_ge_y (a := ((i : Nat) : Int)) (b := M.1 113 p) (by omega) (by omega) (by omega) ?_
    have e : v = ((s_pl E p c : Nat) : Int) := by
      rcases hv with ⟨h1, h2⟩ | ⟨j, j1, j2, j3⟩
      · have ho : s_opE E p c = none := op_no _ _ (fun k _ hk => h1 k (by omega))
        unfold s_pl
        rw [ho]
        show v = (((E.1 14 p).toNat : Nat) : Int)
        omega
      · rcases op_cases E p c with ⟨q, h1, h2, h3⟩ | ⟨h1, h2, h3⟩
        · have hq := op_some _ _ h1
          rw [h2, j3]
          rcases Nat.lt_trichotomy j q with z | z | z
          · exact absurd (j2.trans hq.2.2.symm) (hg.2.2.2.1 p hp4 j q z (by omega))
          · rw [z]
          · exact absurd (hq.2.2.trans j2.symm) (hg.2.2.2.1 p hp4 q j z (by omega))
        · exact absurd j2 (op_none _ _ h1 j (Nat.zero_le _) (by omega))
    refine en_AW_drop [true, true, true, true, true, false, false, false, false] ?_
    rw [e]
    exact hx
  | succ n ih =>
    intro i v hi hv
    obtain ⟨n0, n1, n2, a0, a1, a2, a3, a4, a5, a6, a7⟩ := hg.1
    have e14 : M.1 113 p = E.1 14 p := congrFun hJ.2.1.2.1 p
    obtain ⟨s1, s2⟩ := hg.2.2.1 p hp4
    have er : M.1 (109 + 1 * p) = E.2 p := hJ.2.2 p hp4
    obtain ⟨x0, x1⟩ := s2 i (by omega)
    rw [← er] at x0 x1
    have ec : M.1 103 (M.1 (109 + 1 * p) i).toNat = E.1 4 (E.2 p i).toNat := by
      rw [er]
      exact congrFun (hJ.2.1.2.2.2 4 (by decide) (by decide)) _
    have cb := col_b hg (x := E.2 p i) (by rw [← er]; omega) (by rw [← er]; omega)
    rw [← ec] at cb
    refine aw_218_47 ?_
    refine ⟨p, rfl, (show p < 4 by omega), ?_⟩
    refine br_ge_n (a := ((i : Nat) : Int)) (b := M.1 113 p) (by omega) (by omega) (by omega) ?_
    refine ⟨p, rfl, (show p < 4 by omega), ?_⟩
    refine ⟨i, rfl, (show i < 5 by omega), ?_⟩
    refine ⟨(M.1 (109 + 1 * p) i).toNat, it_nn (x := M.1 (109 + 1 * p) i) (by omega), (show (M.1 (109 + 1 * p) i).toNat < 24 by omega), ?_⟩
    refine br_ne (a := M.1 103 ((M.1 (109 + 1 * p) i).toNat)) (b := c) (by omega) (by omega) (fun q2 => ?_) (fun q2 => ?_)
    · refine aw_218_81 ?_
      refine aw_218_83 ?_
      refine ih (i + 1) v (by omega) (hv.imp (fun z => ⟨fun k hk => ?_, z.2⟩) (fun z => ?_))
      · by_cases hki : k = i
        · subst hki; rw [← ec]; assumption
        · exact z.1 k (by omega)
      · obtain ⟨j, j1, j2, j3⟩ := z
        exact ⟨j, by omega, j2, j3⟩
    · refine aw_218_83 ?_
      exact ih (i + 1) ((i : Nat) : Int) (by omega) (Or.inr ⟨i, by omega, by rw [← ec]; assumption, rfl⟩)
theorem L_bwM {post : Option AV → Mm → Prop} (bm b1 : Nat) (E E3 : Ev) (M : Mm) (hg : s_ok E) (hev : evs E3 E) (hg3 : s_ok E3) (p : Nat) (c : Int) (hp : (p : Int) < E3.1 0 2) (hc : 0 ≤ c ∧ c < E3.1 0 0) (hq : ∀ K : Mm, isM K 84 E → (∀ a, a < 121 ∨ 158 ≤ a → K.1 a = M.1 a) → (∀ a, a < 121 ∨ 158 ≤ a → K.2 a = M.2 a) → post (some (.inl (s_bw E3 p c (E.1 0 1).toNat).1)) K) : ∀ (n : Nat) (i : Nat) (K : Mm) (b : Int) (m : Int), (((i : Nat) : Int) + ((n : Nat) : Int) = E.1 0 1) → (isM K 84 E) → (∃ t, isM K 121 (bwT E3 p c t)) → (∀ a, a < 121 ∨ 158 ≤ a → K.1 a = M.1 a) → (∀ a, a < 121 ∨ 158 ≤ a → K.2 a = M.2 a) → ((b = -1 ∧ (s_bw E3 p c i).1 = -1) ∨ (b ≠ -1 ∧ b = (s_bw E3 p c i).1 ∧ m = (s_bw E3 p c i).2)) → (0 ≤ m ∧ m ≤ 250) → en_AW 9 bm 218 post 134 [some (.inr (.inr (1, 6, 84))), some (.inl ((p : Nat) : Int)), some (.inl c), some (.inr (.inr (1, 6, 121))), some (.inl ((s_pl E3 p c : Nat) : Int)), some (.inl b), some (.inl m), some (.inl ((i : Nat) : Int)), none] [] K b1 := by
  intro n
  induction n with
  | zero =>
    intro i K b m hi hJ hI3 hF hL hbm hmb
    have k1 : K.1 84 10 = E.1 0 1 := hJ.1.2.1
    have n1 := hg.1.2.1
    refine aw_218_134 ?_
    refine br_ge_y (a := ((i : Nat) : Int)) (b := K.1 84 10) (by omega) (by omega) (by omega) ?_
    refine aw_218_209 ?_
    have e : b = (s_bw E3 p c (E.1 0 1).toNat).1 := by
      rw [show (E.1 0 1).toNat = i by omega]
      omega
    rw [e]
    exact hq K hJ hF hL
  | succ n ih =>
    intro i K b m hi hJ hI3 hF hL hbm hmb
    obtain ⟨n0, n1, n2, a0, a1, a2, a3, a4, a5, a6, a7⟩ := hg.1
    have k1 : K.1 84 10 = E.1 0 1 := hJ.1.2.1
    have e01 := hev.1 1 (by decide)
    have e02 := hev.1 2 (by decide)
    have e00 := hev.1 0 (by decide)
    have k4 : K.1 103 i = E3.1 4 i := by
      rw [ev_r hev 4 (by decide) (by decide) (show i < 24 by omega)]
      exact congrFun (hJ.2.1.2.2.2 4 (by decide) (by decide)) i
    have c4 := (hg3.2.1 i (by omega)).2.2.1
    have nb := bw_b hg3 (p := p) (c := c) (by omega) hc i (by omega)
    have hpl : s_pl E3 p c < 5 := by
      have s1 := (hg3.2.2.1 p (by omega)).1
      rcases op_cases E3 p c with ⟨j, h1, h2, h3⟩ | ⟨h1, h2, h3⟩
      · have := op_some _ _ h1
        omega
      · have := size_lt5 hg3 (by omega) hc h1
        omega
    refine aw_218_134 ?_
    refine br_ge_n (a := ((i : Nat) : Int)) (b := K.1 84 10) (by omega) (by omega) (by omega) ?_
    refine ⟨i, rfl, (show i < 24 by omega), ?_⟩
    refine br_ne (a := K.1 103 i) (b := c) (by omega) (by omega) (fun q2 => ?_) (fun q2 => ?_)
    · refine aw_218_203 ?_
      refine en_AW_drop [true, true, true, true, true, true, true, true, false] ?_
      have e := bw_f (E := E3) (p := p) (c := c) (n := i) (fun z => by first | exact absurd z.1 (by omega) | exact absurd z.2 (by assumption) | omega)
      have hbm2 : (b = -1 ∧ (s_bw E3 p c (i + 1)).1 = -1) ∨ (b ≠ -1 ∧ b = (s_bw E3 p c (i + 1)).1 ∧ m = (s_bw E3 p c (i + 1)).2) := by
        rw [e]
        first | omega | exact Or.inr ⟨by omega, rfl, rfl⟩
      exact ih (i + 1) K b m (by omega) hJ hI3 hF hL hbm2 (by omega)
    · by_cases c3 : s_can E3 p i = true
      · refine ⟨1, 0, by first | decide | omega, by first | decide | omega, en_Ct_t (M_canT hJ hg hev (p := p) (i := i) (by omega) (by omega)) c3 ?_⟩
        refine br_eq_n (by decide) (by decide) (by decide) ?_
        refine ⟨p, rfl, (show p < 4 by omega), ?_⟩
        refine ⟨s_pl E3 p c, rfl, (show s_pl E3 p c < 5 by omega), ?_⟩
        have hT : isM (en_wI K (146 + 1 * p) (s_pl E3 p c) ((i : Nat) : Int)) 121 (bwT E3 p c (i : Int)) := by
          obtain ⟨t, ht⟩ := hI3
          have z := isM_ws ht (show p < 4 by omega) (s_pl E3 p c) (i : Int)
          unfold bwT at z ⊢
          rw [ups_ups] at z
          exact z
        have hgT := ok_bwT hg3 (p := p) (w := i) (by omega) hc (by omega) (by omega)
        have pb := pts_b (E := bwT E3 p c (i : Int)) (p := p) (c := -1) hgT (by omega)
        refine ⟨6, 0, by first | decide | omega, by first | decide | omega, en_Ct_mono (R_pointsNow 121 (bwT E3 p c (i : Int)) (en_wI K (146 + 1 * p) (s_pl E3 p c) ((i : Nat) : Int)) hT hgT p hp) ?_⟩
        rintro _ K5 ⟨rfl, hfl, -⟩
        refine br_eq (a := b) (b := (-1)) (by omega) (by omega) (fun q6 => ?_) (fun q6 => ?_)
        · refine aw_218_195 ?_
          refine aw_218_203 ?_
          refine en_AW_drop [true, true, true, true, true, true, true, true, false] ?_
          have e := bw_t (E := E3) (p := p) (c := c) (n := i) ⟨by omega, by assumption⟩ (by omega)
          have hbm2 : (((i : Nat) : Int) = -1 ∧ (s_bw E3 p c (i + 1)).1 = -1) ∨ (((i : Nat) : Int) ≠ -1 ∧ ((i : Nat) : Int) = (s_bw E3 p c (i + 1)).1 ∧ (pts (bwT E3 p c (i : Int)) p (-1)) = (s_bw E3 p c (i + 1)).2) := by
            rw [e]
            first | omega | exact Or.inr ⟨by omega, rfl, rfl⟩
          exact ih (i + 1) _ ((i : Nat) : Int) (pts (bwT E3 p c (i : Int)) p (-1)) (by omega) (isM_fr hJ (fun i _ => by rw [hfl.2 84 (by omega), wI_ne (by omega)]) (fun a h0 h1 => by rw [hfl.2 a (by omega), wI_ne (by omega)])) ⟨_, isM_k hT hfl⟩ (fun a ha => by rw [hfl.2 a (by omega), wI_ne (by omega)]; exact hF a ha) (fun a ha => by rw [hfl.1]; exact hL a ha) hbm2 (by omega)
        · refine br_le (a := pts (bwT E3 p c (i : Int)) p (-1)) (b := m) (by omega) (by omega) (fun q7 => ?_) (fun q7 => ?_)
          · refine aw_218_203 ?_
            refine en_AW_drop [true, true, true, true, true, true, true, true, false] ?_
            have e := bw_f (E := E3) (p := p) (c := c) (n := i) (fun z => by first | exact absurd z.1 (by omega) | exact absurd z.2 (by assumption) | omega)
            have hbm2 : (b = -1 ∧ (s_bw E3 p c (i + 1)).1 = -1) ∨ (b ≠ -1 ∧ b = (s_bw E3 p c (i + 1)).1 ∧ m = (s_bw E3 p c (i + 1)).2) := by
              rw [e]
              first | omega | exact Or.inr ⟨by omega, rfl, rfl⟩
            exact ih (i + 1) _ b m (by omega) (isM_fr hJ (fun i _ => by rw [hfl.2 84 (by omega), wI_ne (by omega)]) (fun a h0 h1 => by rw [hfl.2 a (by omega), wI_ne (by omega)])) ⟨_, isM_k hT hfl⟩ (fun a ha => by rw [hfl.2 a (by omega), wI_ne (by omega)]; exact hF a ha) (fun a ha => by rw [hfl.1]; exact hL a ha) hbm2 (by omega)
          · refine aw_218_195 ?_
            refine aw_218_203 ?_
            refine en_AW_drop [true, true, true, true, true, true, true, true, false] ?_
            have e := bw_t (E := E3) (p := p) (c := c) (n := i) ⟨by omega, by assumption⟩ (by omega)
            have hbm2 : (((i : Nat) : Int) = -1 ∧ (s_bw E3 p c (i + 1)).1 = -1) ∨ (((i : Nat) : Int) ≠ -1 ∧ ((i : Nat) : Int) = (s_bw E3 p c (i + 1)).1 ∧ (pts (bwT E3 p c (i : Int)) p (-1)) = (s_bw E3 p c (i + 1)).2) := by
              rw [e]
              first | omega | exact Or.inr ⟨by omega, rfl, rfl⟩
            exact ih (i + 1) _ ((i : Nat) : Int) (pts (bwT E3 p c (i : Int)) p (-1)) (by omega) (isM_fr hJ (fun i _ => by rw [hfl.2 84 (by omega), wI_ne (by omega)]) (fun a h0 h1 => by rw [hfl.2 a (by omega), wI_ne (by omega)])) ⟨_, isM_k hT hfl⟩ (fun a ha => by rw [hfl.2 a (by omega), wI_ne (by omega)]; exact hF a ha) (fun a ha => by rw [hfl.1]; exact hL a ha) hbm2 (by omega)
      · refine ⟨1, 0, by first | decide | omega, by first | decide | omega, en_Ct_f (M_canT hJ hg hev (p := p) (i := i) (by omega) (by omega)) c3 ?_⟩
        refine br_eq_y (by decide) (by decide) (by decide) ?_
        refine aw_218_203 ?_
        refine en_AW_drop [true, true, true, true, true, true, true, true, false] ?_
        have e := bw_f (E := E3) (p := p) (c := c) (n := i) (fun z => by first | exact absurd z.1 (by omega) | exact absurd z.2 (by assumption) | omega)
        have hbm2 : (b = -1 ∧ (s_bw E3 p c (i + 1)).1 = -1) ∨ (b ≠ -1 ∧ b = (s_bw E3 p c (i + 1)).1 ∧ m = (s_bw E3 p c (i + 1)).2) := by
          rw [e]
          first | omega | exact Or.inr ⟨by omega, rfl, rfl⟩
        exact ih (i + 1) K b m (by omega) hJ hI3 hF hL hbm2 (by omega)
theorem PM_bestWord (hF : freshC) (E : Ev) (M : Mm) (hJ : isM M 84 E) (hg : s_ok E) (bm : Nat) (hbm : (if M.1 84 25 = 0 then 1 else 0) = bm) (x c : Int) (hx : -2147483648 ≤ x ∧ x < 2147483648) (hc : -2147483648 ≤ c ∧ c < 2147483648) (hacc : (0 ≤ x ∧ x < E.1 0 2) ∧ (0 ≤ c ∧ c < E.1 0 0)) : en_Ct 9 bm 218 [.inr (.inr (1, 6, 84)), .inl x, .inl c] M (fun r M' => r = some (.inl (a_bestWord E x c).2) ∧ bm + bl M' ≤ bl M ∧ mF M M' ∧ isM M' 84 E) := by
  obtain ⟨n0, n1, n2, a0, a1, a2, a3, a4, a5, a6, a7⟩ := hg.1
  have r0 : M.1 84 9 = E.1 0 0 := hJ.1.1
  have r1 : M.1 84 10 = E.1 0 1 := hJ.1.2.1
  have r2 : M.1 84 18 = E.1 0 2 := hJ.1.2.2.1
  refine ct_218 rfl ?_
  refine aw_218_0 ?_
  by_cases c1 : 0 ≤ x ∧ x < E.1 0 2
  · refine ⟨2, 0, by first | decide | omega, by first | decide | omega, en_Ct_t (M_isPerson (M := M) (E := E) hJ hg (x := x) (by omega)) c1 ?_⟩
    refine br_eq_n (by decide) (by decide) (by decide) ?_
    by_cases c3 : 0 ≤ c ∧ c ≤ ((M.1 84 9) - 1)
    · refine ⟨1, 0, by first | decide | omega, by first | decide | omega, en_Ct_t (R_in (en_wr c) 0 (en_wr ((M.1 84 9) - 1)) c 0 ((M.1 84 9) - 1) (wl_wr ⟨by omega, by omega⟩) (wl_of ⟨by omega, by omega⟩) (wl_wr ⟨by omega, by omega⟩) _) c3 ?_⟩
      refine br_ne_y (by decide) (by decide) (by decide) ?_
      obtain ⟨p, rfl⟩ := Int.eq_ofNat_of_zero_le (show 0 ≤ x by omega)
      refine aw_218_31 ?_
      refine ⟨8, bm, by first | decide | omega, by first | decide | omega, en_Ct_mono (hbm ▸ hF M) ?_⟩
      rintro _ N ⟨rfl, hN⟩
      obtain ⟨hJN, hev, hg3⟩ := fr_ev hJ hg hN
      refine ⟨p, rfl, (show p < 4 by omega), ?_⟩
      have e00 := hev.1 0 (by decide)
      have e02 := hev.1 2 (by decide)
      have e14 : N.1 113 p = E.1 14 p := congrFun hJN.2.1.2.1 p
      have s1 := (hg.2.2.1 p (by omega)).1
      have eop := ev_op (c := c) hev hg3 (p := p) (by omega)
      have e14' := (hev.2.2.2.1 p (by omega)).1
      have epl : s_pl (vM N 121) p c = s_pl E p c := by unfold s_pl; rw [eop, e14']
      have hsz : (((s_pl E p c : Nat) : Int) = E.1 14 p ∧ s_sz (vM N 121) p c = E.1 14 p + 1) ∨ (((s_pl E p c : Nat) : Int) ≠ E.1 14 p ∧ s_sz (vM N 121) p c = E.1 14 p) := by
        rcases op_cases (vM N 121) p c with ⟨j, h1, h2, h3⟩ | ⟨h1, h2, h3⟩
        · have hq := op_some _ _ h1
          rw [← epl]
          omega
        · rw [← epl]
          omega
      have hplb : s_pl E p c ≤ 5 := by
        rcases op_cases E p c with ⟨j, h1, h2, h3⟩ | ⟨h1, h2, h3⟩
        · have := op_some _ _ h1
          omega
        · omega
      refine L_bwp bm _ E N hJN hg p c (by omega) (by omega) ?_ (E.1 14 p).toNat 0 _ (by omega) (Or.inl ⟨fun k hk => absurd hk (Nat.not_lt_zero k), e14⟩)
      refine aw_218_91 ?_
      refine ⟨p, rfl, (show p < 4 by omega), ?_⟩
      refine br_ne (a := ((s_pl E p c : Nat) : Int)) (b := N.1 113 p) (by omega) (by omega) (fun q1 => ?_) (fun q1 => ?_)
      · refine aw_218_118 ?_
        refine ⟨p, rfl, (show p < 4 by omega), ?_⟩
        refine aw_218_124 ?_
        refine ⟨p, rfl, (show p < 4 by omega), ?_⟩
        have hT0 : ∃ t, isM (en_wI N 150 p (N.1 113 p)) 121 (bwT (vM N 121) p c t) := by
          refine ⟨(vM N 121).2 p (s_pl (vM N 121) p c), ?_⟩
          unfold bwT
          have z := isM_w (isM_self (M := N) (b := 121)) (a := 150) (r := 14) (by decide) p (s_sz (vM N 121) p c)
          have e2 : (upr (vM N 121) 14 p (s_sz (vM N 121) p c)).2 p (s_pl (vM N 121) p c) = (vM N 121).2 p (s_pl (vM N 121) p c) := rfl
          rw [ups_self e2]
          rw [show s_sz (vM N 121) p c = (N.1 113 p) by omega] at z ⊢
          exact z
        have hpe : s_pl E p c = s_pl (vM N 121) p c := epl.symm
        rw [hpe]
        refine L_bwM bm _ E (vM N 121) N hg hev hg3 p c (by omega) (by omega) (fun K hJK hK hL => ?_) (E.1 0 1).toNat 0 _ (-1) 0 (by omega) (isM_fr hJN (fun i _ => by rw [wI_ne (by decide)]) (fun a h0 h1 => by rw [wI_ne (by omega)])) hT0 (fun a ha => by rw [wI_ne (by omega)]) (fun a ha => rfl) (Or.inl ⟨rfl, rfl⟩) (by omega)
        have ha : a_bestWord E p c = (0, (s_bw (vM N 121) p c (E.1 0 1).toNat).1) := by
          unfold a_bestWord
          rw [if_pos (by omega), Int.toNat_natCast, ev_bw hev hg3 (by omega) (by omega) (E.1 0 1).toNat (by have := hev.1 1 (by decide); omega)]
        rw [ha]
        obtain ⟨m1, m2⟩ := fr_mF hN hK hL
        exact ⟨rfl, by rw [← hbm]; exact m2, m1, hJK⟩
      · refine ⟨p, rfl, (show p < 4 by omega), ?_⟩
        refine aw_218_124 ?_
        refine ⟨p, rfl, (show p < 4 by omega), ?_⟩
        have hT0 : ∃ t, isM (en_wI N 150 p ((N.1 113 p) + 1)) 121 (bwT (vM N 121) p c t) := by
          refine ⟨(vM N 121).2 p (s_pl (vM N 121) p c), ?_⟩
          unfold bwT
          have z := isM_w (isM_self (M := N) (b := 121)) (a := 150) (r := 14) (by decide) p (s_sz (vM N 121) p c)
          have e2 : (upr (vM N 121) 14 p (s_sz (vM N 121) p c)).2 p (s_pl (vM N 121) p c) = (vM N 121).2 p (s_pl (vM N 121) p c) := rfl
          rw [ups_self e2]
          rw [show s_sz (vM N 121) p c = ((N.1 113 p) + 1) by omega] at z ⊢
          exact z
        have hpe : s_pl E p c = s_pl (vM N 121) p c := epl.symm
        rw [hpe]
        refine L_bwM bm _ E (vM N 121) N hg hev hg3 p c (by omega) (by omega) (fun K hJK hK hL => ?_) (E.1 0 1).toNat 0 _ (-1) 0 (by omega) (isM_fr hJN (fun i _ => by rw [wI_ne (by decide)]) (fun a h0 h1 => by rw [wI_ne (by omega)])) hT0 (fun a ha => by rw [wI_ne (by omega)]) (fun a ha => rfl) (Or.inl ⟨rfl, rfl⟩) (by omega)
        have ha : a_bestWord E p c = (0, (s_bw (vM N 121) p c (E.1 0 1).toNat).1) := by
          unfold a_bestWord
          rw [if_pos (by omega), Int.toNat_natCast, ev_bw hev hg3 (by omega) (by omega) (E.1 0 1).toNat (by have := hev.1 1 (by decide); omega)]
        rw [ha]
        obtain ⟨m1, m2⟩ := fr_mF hN hK hL
        exact ⟨rfl, by rw [← hbm]; exact m2, m1, hJK⟩
    · refine ⟨1, 0, by first | decide | omega, by first | decide | omega, en_Ct_f (R_in (en_wr c) 0 (en_wr ((M.1 84 9) - 1)) c 0 ((M.1 84 9) - 1) (wl_wr ⟨by omega, by omega⟩) (wl_of ⟨by omega, by omega⟩) (wl_wr ⟨by omega, by omega⟩) _) c3 ?_⟩
      refine br_ne_n (by decide) (by decide) (by decide) ?_
      refine aw_218_24 ?_
      refine ⟨1, 0, by first | decide | omega, by first | decide | omega, en_Ct_eq (R_refM (-2) (by omega) M) ?_⟩
      exfalso
      omega
  · refine ⟨2, 0, by first | decide | omega, by first | decide | omega, en_Ct_f (M_isPerson (M := M) (E := E) hJ hg (x := x) (by omega)) c1 ?_⟩
    refine br_eq_y (by decide) (by decide) (by decide) ?_
    refine aw_218_24 ?_
    refine ⟨1, 0, by first | decide | omega, by first | decide | omega, en_Ct_eq (R_refM (-2) (by omega) M) ?_⟩
    exfalso
    omega
theorem PMr_bestWord (E : Ev) (M : Mm) (hJ : isM M 84 E) (hg : s_ok E) (x c : Int) (hx : -2147483648 ≤ x ∧ x < 2147483648) (hc : -2147483648 ≤ c ∧ c < 2147483648) (hacc : ¬ ((0 ≤ x ∧ x < E.1 0 2) ∧ (0 ≤ c ∧ c < E.1 0 0))) : en_Ct 9 0 218 [.inr (.inr (1, 6, 84)), .inl x, .inl c] M (fun r M' => r = some (.inl (-2)) ∧ M' = rfM M 0) := by
  obtain ⟨n0, n1, n2, a0, a1, a2, a3, a4, a5, a6, a7⟩ := hg.1
  have r0 : M.1 84 9 = E.1 0 0 := hJ.1.1
  have r1 : M.1 84 10 = E.1 0 1 := hJ.1.2.1
  have r2 : M.1 84 18 = E.1 0 2 := hJ.1.2.2.1
  refine ct_218 rfl ?_
  refine aw_218_0 ?_
  by_cases c1 : 0 ≤ x ∧ x < E.1 0 2
  · refine ⟨2, 0, by first | decide | omega, by first | decide | omega, en_Ct_t (M_isPerson (M := M) (E := E) hJ hg (x := x) (by omega)) c1 ?_⟩
    refine br_eq_n (by decide) (by decide) (by decide) ?_
    by_cases c3 : 0 ≤ c ∧ c ≤ ((M.1 84 9) - 1)
    · refine ⟨1, 0, by first | decide | omega, by first | decide | omega, en_Ct_t (R_in (en_wr c) 0 (en_wr ((M.1 84 9) - 1)) c 0 ((M.1 84 9) - 1) (wl_wr ⟨by omega, by omega⟩) (wl_of ⟨by omega, by omega⟩) (wl_wr ⟨by omega, by omega⟩) _) c3 ?_⟩
      refine br_ne_y (by decide) (by decide) (by decide) ?_
      exfalso
      omega
    · refine ⟨1, 0, by first | decide | omega, by first | decide | omega, en_Ct_f (R_in (en_wr c) 0 (en_wr ((M.1 84 9) - 1)) c 0 ((M.1 84 9) - 1) (wl_wr ⟨by omega, by omega⟩) (wl_of ⟨by omega, by omega⟩) (wl_wr ⟨by omega, by omega⟩) _) c3 ?_⟩
      refine br_ne_n (by decide) (by decide) (by decide) ?_
      refine aw_218_24 ?_
      refine ⟨1, 0, by first | decide | omega, by first | decide | omega, en_Ct_eq (R_refM (-2) (by omega) M) ?_⟩
      exact ⟨rfl, rfl⟩
  · refine ⟨2, 0, by first | decide | omega, by first | decide | omega, en_Ct_f (M_isPerson (M := M) (E := E) hJ hg (x := x) (by omega)) c1 ?_⟩
    refine br_eq_y (by decide) (by decide) (by decide) ?_
    refine aw_218_24 ?_
    refine ⟨1, 0, by first | decide | omega, by first | decide | omega, en_Ct_eq (R_refM (-2) (by omega) M) ?_⟩
    exact ⟨rfl, rfl⟩
/-- a call that changes nothing, whose reference makes a fresh copy -/
theorem same_fr {kx km hx hm : Nat} {as : List AV} {f : Ev → Nat × Int} (h60 : hx < 60) (g60 : hm < 60)
    (hX : ∀ E M, isE M 1 E → s_ok E → en_Ct hx 0 kx (.inr (.inr (1, 5, 0)) :: as) M (fun r M' => r = some (.inl (f E).2) ∧ sX (aX M (f E).1) M'))
    (hM : ∀ E M bm, isM M 84 E → s_ok E → (if M.1 84 25 = 0 then 1 else 0) = bm → (f E).1 = 0 → en_Ct hm bm km (.inr (.inr (1, 6, 84)) :: as) M (fun r M' => r = some (.inl (f E).2) ∧ bm + bl M' ≤ bl M ∧ mF M M' ∧ isM M' 84 E))
    (hMr : ∀ E M, isM M 84 E → s_ok E → (f E).1 ≠ 0 → en_Ct hm 0 km (.inr (.inr (1, 6, 84)) :: as) M (fun r M' => r = some (.inl (f E).2) ∧ sM (aM M (f E).1) M'))
    (hv : ∀ E F, evs E F → s_ok E → f E = f F) (hk : ∀ E, (f E).1 ≤ 5) : sameC kx km as := by
  intro M hc
  have e := hv _ _ hc.1.2 hc.1.1
  have hg := ev_ok hc.1.2 hc.1.1
  have hX' := hX (vE M 1) M isE_self hc.1.1
  by_cases h0 : (f (vE M 1)).1 = 0
  · refine same_upM (hx := hx) (hm := hm) (bm := if M.1 84 25 = 0 then 1 else 0) (f := f (vE M 1)) (u := vE M 1) (u' := vM M 84) (v' := vM M 84) hc h60 g60 (hk _) (bl25 M) (en_Ct_mono hX' ?_) (fun M1 h84 h64 => ?_) (fun _ => hc.1.2) (fun _ => ⟨hc.1.2, hc.1.1, Int.le_refl _⟩)
    · rintro r M' ⟨h1, h2⟩
      rw [h0] at h2
      exact ⟨h1, Or.inr ⟨h0, xE_sX h2, isE_sX isE_self h2 (by decide)⟩⟩
    · refine en_Ct_mono (hM (vM M 84) M1 _ (isM_x isM_self h84) hg (by rw [h84 84 (by decide)]) (by rw [← e]; exact h0)) ?_
      rintro r M' ⟨h1, h2, h3, h4⟩
      rw [← e] at h1
      exact ⟨h1, h2, Or.inr ⟨h0, h3, h4⟩⟩
  · refine same_ra (hx := hx) (hm := hm) (f := f (vE M 1)) hc h60 g60 (hk _) hX' (fun M1 h84 h64 => ?_)
    have := hMr (vM M 84) M1 (isM_x isM_self h84) hg (by rw [← e]; exact h0)
    rw [← e] at this
    exact this
theorem S_bestWord (hF : freshC) {x c : Int} (hx : -2147483648 ≤ x ∧ x < 2147483648) (hc : -2147483648 ≤ c ∧ c < 2147483648) : sameC 96 218 [.inl x, .inl c] := same_fr (hx := 9) (hm := 9) (f := fun E => a_bestWord E x c) (by decide) (by decide) (fun E M h1 h2 => PX_bestWord E M h1 h2 x c hx hc) (fun E M bm h1 h2 h3 h4 => PM_bestWord hF E M h1 h2 bm h3 x c hx hc (by
    have h4 : (a_bestWord E x c).1 = 0 := h4
    unfold a_bestWord at h4
    by_cases z : (0 ≤ x ∧ x < E.1 0 2) ∧ (0 ≤ c ∧ c < E.1 0 0)
    · exact z
    · rw [if_neg z] at h4; cases h4)) (fun E M h1 h2 h3 => by
    have h3 : (a_bestWord E x c).1 ≠ 0 := h3
    have hz : ¬ ((0 ≤ x ∧ x < E.1 0 2) ∧ (0 ≤ c ∧ c < E.1 0 0)) := fun z => h3 (by unfold a_bestWord; rw [if_pos z])
    have ha : a_bestWord E x c = (1, -2) := by unfold a_bestWord; rw [if_neg hz]
    refine en_Ct_mono (PMr_bestWord E M h1 h2 x c hx hc hz) ?_
    rintro r M' ⟨rfl, rfl⟩
    show _ = some (Sum.inl (a_bestWord E x c).2) ∧ sM (aM M (a_bestWord E x c).1) _
    rw [ha]
    exact ⟨rfl, sM_rfl⟩) (fun E F h1 h2 => ea_bestWord h1 h2) (fun E => by show (a_bestWord E x c).1 ≤ 5; unfold a_bestWord; (repeat' split) <;> exact Nat.le_of_ble_eq_true rfl)
