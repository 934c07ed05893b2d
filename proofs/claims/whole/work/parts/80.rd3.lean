theorem L_gr1 {post : Option AV → Mm → Prop} (E : Ev) (M : Mm) (hJ : isM M 84 E) (hK : isK M 84 E) (hg : s_ok E) (c : Int) (hx : ∀ K : Mm, (∀ a, a ≠ 114 → K.1 a = M.1 a) → K.2 = M.2 → K.1 114 = f15 E (E.1 0 2).toNat → en_AW 8 0 230 post 39 [some (.inr (.inr (1, 6, 84))), some (.inl c), none, none] [] K 0) : ∀ (n : Nat) (i : Nat) (K : Mm), (((i : Nat) : Int) + ((n : Nat) : Int) = E.1 0 2) → (∀ a, a ≠ 114 → K.1 a = M.1 a) → (K.2 = M.2) → (K.1 114 = f15 E i) → en_AW 8 0 230 post 11 [some (.inr (.inr (1, 6, 84))), some (.inl c), some (.inl ((i : Nat) : Int)), none] [] K 0 := by
  intro n
  induction n with
  | zero =>
    intro i K hi hf hL h15
    obtain ⟨n0, n1, n2, a0, a1, a2, a3, a4, a5, a6, a7⟩ := hg.1
    have k2 : K.1 84 18 = E.1 0 2 := by rw [hf 84 (by decide)]; exact hJ.1.2.2.1
    have k16 : K.1 114 i = E.1 15 i := by rw [h15]; simp [f15]
    refine aw_230_11 ?_
    refine br_ge_y (a := ((i : Nat) : Int)) (b := K.1 84 18) (by omega) (by omega) (by omega) ?_
    refine en_AW_drop [true, true, false, false] ?_
    exact hx K hf hL (by rw [show (E.1 0 2).toNat = i by omega]; exact h15)
  | succ n ih =>
    intro i K hi hf hL h15
    obtain ⟨n0, n1, n2, a0, a1, a2, a3, a4, a5, a6, a7⟩ := hg.1
    have k2 : K.1 84 18 = E.1 0 2 := by rw [hf 84 (by decide)]; exact hJ.1.2.2.1
    have k16 : K.1 114 i = E.1 15 i := by rw [h15]; simp [f15]
    refine aw_230_11 ?_
    refine br_ge_n (a := ((i : Nat) : Int)) (b := K.1 84 18) (by omega) (by omega) (by omega) ?_
    refine ⟨i, rfl, (show i < 4 by omega), ?_⟩
    refine ⟨3, 0, by first | decide | omega, by first | decide | omega, en_Ct_eq (V_po15 (M := M) (K := K) hJ hf hK hg (i := i) (by omega)) ?_⟩
    refine ⟨i, rfl, (show i < 4 by omega), ?_⟩
    refine ih (i + 1) _ (by omega) (fun a ha => by rw [wI_ne ha]; exact hf a ha) hL ?_
    rw [wI_row, k16, h15]
    exact f15_s
theorem L_gr2 {post : Option AV → Mm → Prop} (E : Ev) (M : Mm) (h1 : M.1 84 10 = E.1 0 1) (p : Nat) (hp : p < 4) (hKp : M.1 118 p = ((kpw E p : Nat) : Int)) (hg : s_ok E) (c : Int) (hx : ∀ K : Mm, (∀ a, a ≠ 107 → K.1 a = M.1 a) → K.2 = M.2 → K.1 107 = g8 E (p + 1) (E.1 0 1).toNat → en_AW 8 0 230 post 84 [some (.inr (.inr (1, 6, 84))), some (.inl c), some (.inl ((p : Nat) : Int)), none] [] K 0) : ∀ (n : Nat) (i : Nat) (K : Mm), (((i : Nat) : Int) + ((n : Nat) : Int) = E.1 0 1) → (∀ a, a ≠ 107 → K.1 a = M.1 a) → (K.2 = M.2) → (K.1 107 = h8 E p (E.1 0 1).toNat i) → en_AW 8 0 230 post 51 [some (.inr (.inr (1, 6, 84))), some (.inl c), some (.inl ((p : Nat) : Int)), some (.inl ((i : Nat) : Int))] [] K 0 := by
  intro n
  induction n with
  | zero =>
    intro i K hi hf hL h9
    obtain ⟨n0, n1, n2, a0, a1, a2, a3, a4, a5, a6, a7⟩ := hg.1
    have k1 : K.1 84 10 = E.1 0 1 := by rw [hf 84 (by decide)]; exact h1
    have kO : K.1 118 p = ((kpw E p : Nat) : Int) := by rw [hf 118 (by decide)]; exact hKp
    refine aw_230_51 ?_
    refine br_ge_y (a := ((i : Nat) : Int)) (b := K.1 84 10) (by omega) (by omega) (by omega) ?_
    refine en_AW_drop [true, true, true, false] ?_
    exact hx K hf hL (by rw [← h8_m, h9, show (E.1 0 1).toNat = i by omega])
  | succ n ih =>
    intro i K hi hf hL h9
    obtain ⟨n0, n1, n2, a0, a1, a2, a3, a4, a5, a6, a7⟩ := hg.1
    have k1 : K.1 84 10 = E.1 0 1 := by rw [hf 84 (by decide)]; exact h1
    have kO : K.1 118 p = ((kpw E p : Nat) : Int) := by rw [hf 118 (by decide)]; exact hKp
    refine aw_230_51 ?_
    refine br_ge_n (a := ((i : Nat) : Int)) (b := K.1 84 10) (by omega) (by omega) (by omega) ?_
    refine ⟨i, rfl, (show i < 24 by omega), ?_⟩
    refine ⟨p, rfl, (show p < 4 by omega), ?_⟩
    refine ⟨i, rfl, (show i < 24 by omega), ?_⟩
    refine ih (i + 1) _ (by omega) (fun a ha => by rw [wI_ne ha]; exact hf a ha) hL ?_
    rw [wI_row, kO, h9, ← h8_s]
    have e : h8 E p (E.1 0 1).toNat i i = f8 E p i := by
      have : i < (E.1 0 1).toNat := by omega
      simp [h8, g8, this]
    rw [e, f8_s (by omega) hp (hg.2.2.2.2 i (by omega)) (Nat.lt_trans (kpw_lt hg p) (by decide))]
theorem L_gr3 {post : Option AV → Mm → Prop} (E : Ev) (M : Mm) (h1 : M.1 84 10 = E.1 0 1) (h2 : M.1 84 18 = E.1 0 2) (hK : isK M 84 E) (hg : s_ok E) (c : Int) (hx : ∀ K : Mm, (∀ a, a ≠ 107 → a ≠ 113 → K.1 a = M.1 a) → K.2 = M.2 → K.1 107 = g8 E (E.1 0 2).toNat (E.1 0 1).toNat → K.1 113 = f14 E (E.1 0 2).toNat → post (some (.inl c)) K) : ∀ (n : Nat) (i : Nat) (K : Mm), (((i : Nat) : Int) + ((n : Nat) : Int) = E.1 0 2) → (∀ a, a ≠ 107 → a ≠ 113 → K.1 a = M.1 a) → (K.2 = M.2) → (K.1 107 = g8 E i (E.1 0 1).toNat) → (K.1 113 = f14 E i) → en_AW 8 0 230 post 41 [some (.inr (.inr (1, 6, 84))), some (.inl c), some (.inl ((i : Nat) : Int)), none] [] K 0 := by
  intro n
  induction n with
  | zero =>
    intro i K hi hf hL h9 h14
    obtain ⟨n0, n1, n2, a0, a1, a2, a3, a4, a5, a6, a7⟩ := hg.1
    have k2 : K.1 84 18 = E.1 0 2 := by rw [hf 84 (by decide) (by decide)]; exact h2
    refine aw_230_41 ?_
    refine br_ge_y (a := ((i : Nat) : Int)) (b := K.1 84 18) (by omega) (by omega) (by omega) ?_
    refine aw_230_97 ?_
    have e : (E.1 0 2).toNat = i := by omega
    exact hx K hf hL (by rw [e]; exact h9) (by rw [e]; exact h14)
  | succ n ih =>
    intro i K hi hf hL h9 h14
    obtain ⟨n0, n1, n2, a0, a1, a2, a3, a4, a5, a6, a7⟩ := hg.1
    have k2 : K.1 84 18 = E.1 0 2 := by rw [hf 84 (by decide) (by decide)]; exact h2
    refine aw_230_41 ?_
    refine br_ge_n (a := ((i : Nat) : Int)) (b := K.1 84 18) (by omega) (by omega) (by omega) ?_
    refine L_gr2 E K (by rw [hf 84 (by decide) (by decide)]; exact h1) i (by omega) (by rw [hf 118 (by decide) (by decide)]; exact hK i (by omega)) hg c (fun K' b1 b2 b3 => ?_) (E.1 0 1).toNat 0 K (by omega) (fun _ _ => rfl) rfl (by rw [h8_0]; exact h9)
    refine aw_230_84 ?_
    refine ⟨i, rfl, (show i < 4 by omega), ?_⟩
    refine ih (i + 1) _ (by omega) (fun a ha hb => by rw [wI_ne hb, b1 a ha]; exact hf a ha hb) (b2.trans hL) (by rw [wI_ne (by decide)]; exact b3) ?_
    rw [wI_row, b1 113 (by decide), h14]
    exact f14_s
theorem R_goesRound (E : Ev) (M : Mm) (hJ : isM M 84 E) (hg : s_ok E) : en_Ct 8 0 230 [.inr (.inr (1, 6, 84))] M (fun r M' => r = some (.inl (s_clr E)) ∧ mE M M' ∧ isM M' 84 (u_round E)) := by
  obtain ⟨n0, n1, n2, a0, a1, a2, a3, a4, a5, a6, a7⟩ := hg.1
  have r1 : M.1 84 10 = E.1 0 1 := hJ.1.2.1
  have r2 : M.1 84 18 = E.1 0 2 := hJ.1.2.2.1
  refine ct_230 rfl ?_
  refine aw_230_0 ?_
  refine ⟨4, 0, by first | decide | omega, by first | decide | omega, en_Ct_eq (R_callerNow 84 E M hJ hg) ?_⟩
  refine ⟨5, 0, by first | decide | omega, by first | decide | omega, en_Ct_mono (R_findKept 84 E M hJ hg) ?_⟩
  rintro _ K1 ⟨rfl, hf, hK⟩
  replace hJ := isM_k hJ hf
  refine L_gr1 E K1 hJ hK hg (s_clr E) (fun K a1 a2 a3 => ?_) (E.1 0 2).toNat 0 K1 (by omega) (fun _ _ => rfl) rfl (by rw [f15_0]; exact hJ.2.1.2.2.1)
  refine aw_230_39 ?_
  refine L_gr3 E K (by rw [a1 84 (by decide)]; exact hJ.1.2.1) (by rw [a1 84 (by decide)]; exact hJ.1.2.2.1) (fun q hq => by rw [a1 (84 + 34) (by decide)]; exact hK q hq) hg (s_clr E) (fun K' b1 b2 b3 b4 => ?_) (E.1 0 2).toNat 0 K (by omega) (fun _ _ _ => rfl) rfl (by rw [g8_p0, a1 107 (by decide)]; exact hJ.2.1.2.2.2 8 (by decide) (by decide)) (by rw [f14_0, a1 113 (by decide)]; exact hJ.2.1.2.1)
  obtain ⟨⟨z1, z2, z3, z4⟩, ⟨z5, z6, z7, z8⟩, z9⟩ := hJ
  have e84 : K'.1 84 = K1.1 84 := by rw [b1 84 (by decide) (by decide), a1 84 (by decide)]
  refine ⟨rfl, ⟨fun a ha => ?_, fun j hj => ?_, fun a _ => by rw [b2, a2, hf.1]⟩, ⟨by rw [e84]; exact z1, by rw [e84]; exact z2, by rw [e84]; exact z3, by rw [e84]; exact z4⟩, ⟨?_, b4, ?_, fun r q0 q1 => ?_⟩, fun p hp => ?_⟩
  · rw [b1 a (by omega) (by omega), a1 a (by omega)]
    exact hf.2 a (by omega)
  · rw [e84, hf.2 84 (by decide)]
  · rw [b1 _ (by decide) (by decide), a1 _ (by decide)]; exact z5
  · rw [b1 _ (by decide) (by decide)]; exact a3
  · by_cases h8 : r = 8
    · subst h8
      exact b3
    · rw [b1 _ (by omega) (by omega), a1 _ (by omega)]
      show _ = (if r = 15 then f15 E (E.1 0 2).toNat else if r = 8 then g8 E (E.1 0 2).toNat (E.1 0 1).toNat else if r = 14 then f14 E (E.1 0 2).toNat else E.1 r)
      rw [if_neg (by omega), if_neg h8, if_neg (by omega)]
      exact z8 r q0 q1
  · rw [b1 _ (by omega) (by omega), a1 _ (by omega)]
    exact z9 p hp
theorem ev_f15 {E F : Ev} (h : evs E F) (hg : s_ok E) : ∀ i, i < 4 → f15 E (E.1 0 2).toNat i = f15 F (F.1 0 2).toNat i := fun i hi => by
  unfold f15
  rw [← ev_pp h, ← ev_pts h hg hi, (h.2.2.2.1 i hi).2]
theorem ev_g8 {E F : Ev} (h : evs E F) (hg : s_ok E) : ∀ i, i < 24 → g8 E (E.1 0 2).toNat (E.1 0 1).toNat i = g8 F (F.1 0 2).toNat (F.1 0 1).toNat i := fun i hi => by
  unfold g8 f8
  rw [← ev_pp h, ← ev_ww h, ← ev_kb h hg _ (ok_pp hg), ev_r h 8 (by decide) (by decide) hi]
theorem ev_f14 {E F : Ev} (h : evs E F) : ∀ i, i < 4 → f14 E (E.1 0 2).toNat i = f14 F (F.1 0 2).toNat i := fun i hi => by
  unfold f14
  rw [← ev_pp h, (h.2.2.2.1 i hi).1]
theorem ur_r {E : Ev} {r : Nat} (h : r ≠ 15 ∧ r ≠ 8 ∧ r ≠ 14) : (u_round E).1 r = E.1 r := by simp [u_round, h.1, h.2.1, h.2.2]
theorem f14_le {E : Ev} {n i : Nat} (h : 0 ≤ E.1 14 i) : 0 ≤ f14 E n i ∧ f14 E n i ≤ E.1 14 i := by
  unfold f14
  split <;> omega
theorem ev_ur {E F : Ev} (h : evs E F) (hg : s_ok E) : evs (u_round E) (u_round F) := by
  refine ⟨fun i hi => h.1 i hi, fun i hi => h.2.1 i hi, fun r i h2 h8 hi => ?_, fun p hp => ⟨ev_f14 h p hp, ev_f15 h hg p hp⟩, fun p i hp hi => ?_⟩
  · by_cases h88 : r = 8
    · subst h88
      exact ev_g8 h hg i hi
    · rw [ur_r (by omega), ur_r (by omega)]
      exact h.2.2.1 r i h2 h8 hi
  · have hs := (hg.2.2.1 p hp).1
    have := f14_le (E := E) (n := (E.1 0 2).toNat) (i := p) hs.1
    have hi' : (i : Int) < f14 E (E.1 0 2).toNat p := hi
    exact h.2.2.2.2 p i hp (by omega)
theorem ok_ur {E : Ev} (hg : s_ok E) : s_ok (u_round E) := by
  obtain ⟨g1, g2, g3, g4, g5⟩ := hg
  have e8 : ∀ i, i < 24 → g8 E (E.1 0 2).toNat (E.1 0 1).toNat i = 0 ∨ g8 E (E.1 0 2).toNat (E.1 0 1).toNat i = 1 := by
    intro i hi
    unfold g8
    split
    · exact f8_01 (g5 i hi)
    · exact g5 i hi
  have s14 : ∀ p, p < 4 → 0 ≤ (u_round E).1 14 p ∧ (u_round E).1 14 p ≤ E.1 14 p := fun p hp => f14_le (g3 p hp).1.1
  refine ⟨g1, fun w hw => ?_, fun p hp => ?_, fun p hp a b hab hb => ?_, e8⟩
  · have hw' : (w : Int) < E.1 0 1 := hw
    have := g2 w hw'
    have h8 := e8 w (by have := g1.2.1; omega)
    exact ⟨this.1, this.2.1, this.2.2.1, this.2.2.2.1, this.2.2.2.2.1, this.2.2.2.2.2.1, (by
      have h9 : (u_round E).1 8 w = 0 ∨ (u_round E).1 8 w = 1 := h8
      omega)⟩
  · have := s14 p hp
    have h2 := g3 p hp
    exact ⟨by have := h2.1; omega, fun i hi => h2.2 i (by omega)⟩
  · have := s14 p hp
    exact g4 p hp a b hab (by omega)
def a_round (E : Ev)  : Nat × Int := if E.1 0 2 = 0 then (4, -5) else (0, s_clr E)
theorem PX_round (E : Ev) (M : Mm) (hI : isE M 1 E) (hg : s_ok E)    : en_Ct 9 0 112 [.inr (.inr (1, 5, 0))] M (fun r M' => r = some (.inl (a_round E ).2) ∧ (((a_round E ).1 ≠ 0 ∧ sX (aX M (a_round E ).1) M') ∨ ((a_round E ).1 = 0 ∧ xE M M' ∧ isE M' 1 (u_round E )))) := by
  obtain ⟨n0, n1, n2, a0, a1, a2, a3, a4, a5, a6, a7⟩ := hg.1
  have r0 : M.1 1 0 = E.1 0 0 := r0_I hI 0
  have r1 : M.1 1 1 = E.1 0 1 := r0_I hI 1
  have r2 : M.1 1 2 = E.1 0 2 := r0_I hI 2
  refine ct_112 rfl ?_
  refine aw_112_0 ?_
  refine br_ne (a := M.1 1 2) (b := 0) (by omega) (by omega) (fun q1 => ?_) (fun q1 => ?_)
  · refine aw_112_19 ?_
    refine ⟨8, 0, by first | decide | omega, by first | decide | omega, en_Ct_mono (R_endRound E M hI hg) ?_⟩
    rintro _ K2 ⟨rfl, hxe, hIe⟩
    refine aw_112_23 ?_
    have ha : a_round E  = (0, s_clr E) := by
      unfold a_round
      repeat first | rw [if_pos (by omega)] | rw [if_neg (by omega)]
      first | done | rfl | (rfl)
    rw [ha]
    refine ⟨rfl, Or.inr ⟨rfl, ?_⟩⟩
    exact ⟨hxe, hIe⟩
  · refine ⟨2, 0, by first | decide | omega, by first | decide | omega, en_Ct_eq (R_refX (-5) (by omega) M) ?_⟩
    refine aw_112_23 ?_
    have ha : a_round E  = (4, (-5)) := by
      unfold a_round
      repeat first | rw [if_pos (by omega)] | rw [if_neg (by omega)]
      first | done | rfl | (rfl)
    rw [ha]
    exact ⟨rfl, Or.inl ⟨by decide, sX_rfl⟩⟩
theorem PM_round (E : Ev) (M : Mm) (hJ : isM M 84 E) (hg : s_ok E)    : en_Ct 9 0 231 [.inr (.inr (1, 6, 84))] M (fun r M' => r = some (.inl (a_round E ).2) ∧ (((a_round E ).1 ≠ 0 ∧ sM (aM M (a_round E ).1) M') ∨ ((a_round E ).1 = 0 ∧ mE M M' ∧ isM M' 84 (u_round E )))) := by
  obtain ⟨n0, n1, n2, a0, a1, a2, a3, a4, a5, a6, a7⟩ := hg.1
  have r0 : M.1 84 9 = E.1 0 0 := hJ.1.1
  have r1 : M.1 84 10 = E.1 0 1 := hJ.1.2.1
  have r2 : M.1 84 18 = E.1 0 2 := hJ.1.2.2.1
  refine ct_231 rfl ?_
  refine aw_231_0 ?_
  refine br_ne (a := M.1 84 18) (b := 0) (by omega) (by omega) (fun q1 => ?_) (fun q1 => ?_)
  · refine aw_231_16 ?_
    refine ⟨8, 0, by first | decide | omega, by first | decide | omega, en_Ct_mono (R_goesRound E M hJ hg) ?_⟩
    rintro _ K2 ⟨rfl, hxe, hIe⟩
    refine aw_231_20 ?_
    have ha : a_round E  = (0, s_clr E) := by
      unfold a_round
      repeat first | rw [if_pos (by omega)] | rw [if_neg (by omega)]
      first | done | rfl | (rfl)
    rw [ha]
    refine ⟨rfl, Or.inr ⟨rfl, ?_⟩⟩
    exact ⟨hxe, hIe⟩
  · refine ⟨1, 0, by first | decide | omega, by first | decide | omega, en_Ct_eq (R_refM (-5) (by omega) M) ?_⟩
    refine aw_231_20 ?_
    have ha : a_round E  = (4, (-5)) := by
      unfold a_round
      repeat first | rw [if_pos (by omega)] | rw [if_neg (by omega)]
      first | done | rfl | (rfl)
    rw [ha]
    exact ⟨rfl, Or.inl ⟨by decide, sM_rfl⟩⟩
theorem ea_round {E F : Ev} (h : evs E F) (hg : s_ok E)  : a_round E  = a_round F  := by
  have hb := hg.1.2.2.1
  have hw := hg.1.2.1
  unfold a_round
  rw [h.1 2 (by decide), ev_clr h hg]
theorem eu_round {E F : Ev} (h : evs E F) (hg : s_ok E)   (h0 : (a_round E ).1 = 0) : evs (u_round E ) (u_round F ) ∧ s_ok (u_round E ) ∧ E.1 0 1 ≤ (u_round E ).1 0 1 := by
  have hb := hg.1.2.2.1
  have hw := hg.1.2.1
  exact ⟨ev_ur h hg, ok_ur hg, Int.le_refl _⟩
theorem S_round   : sameC 112 231 [] := same_up (f := fun E => a_round E ) (u := fun E => u_round E ) (by decide) (by decide) (fun E M h1 h2 => PX_round E M h1 h2   ) (fun E M h1 h2 => PM_round E M h1 h2   ) (fun E F h1 h2 => ea_round h1 h2) (fun E => by show (a_round E ).1 ≤ 5; unfold a_round; (repeat' split) <;> exact Nat.le_of_ble_eq_true rfl) (fun E F h1 h2 h3 => eu_round h1 h2  h3)
