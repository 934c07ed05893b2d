theorem X_pin15 {M K : Mm} {E : Ev} (h : isE M 1 E) (hf : ∀ a, a ≠ 16 → K.1 a = M.1 a) (hO : isO M E) (hg : s_ok E) {i : Nat} (h1 : (i : Int) < E.1 0 2) : en_Ct 3 0 42 [.inr (.inr (1, 2, 49)), .inr (.inr (1, 1, 1)), .inl ((i : Nat) : Int), .inl (-1)] K (fun r M' => r = some (.inl (pts E i (-1))) ∧ M' = K) := by
  have hO' : isO K E := ⟨by rw [hf 49 (by decide)]; exact hO.1, by rw [hf 49 (by decide)]; exact hO.2.1, fun q hq => by rw [hf 50 (by decide), hf 51 (by decide)]; exact hO.2.2 q hq⟩
  have := R_pin 1 (sc15 E (K.1 16)) K (sc_isE h hf) (sc_isO hO') (sc_ok hg) i h1 (-1) (by decide)
  rw [sc_pts] at this
  exact this
theorem V_po15 {M K : Mm} {E : Ev} (h : isM M 84 E) (hf : ∀ a, a ≠ 114 → K.1 a = M.1 a) (hK : isK M 84 E) (hg : s_ok E) {i : Nat} (h1 : (i : Int) < E.1 0 2) : en_Ct 3 0 202 [.inr (.inr (1, 6, 84)), .inl ((i : Nat) : Int)] K (fun r M' => r = some (.inl (pts E i (-1))) ∧ M' = K) := by
  have hK' : isK K 84 E := fun q hq => by rw [hf (84 + 34) (by decide)]; exact hK q hq
  have := R_pointsOf 84 (sc15 E (K.1 114)) K (sc_isM h hf) (sc_isK hK') (sc_ok hg) i h1
  rw [sc_pts] at this
  exact this
theorem L_kb2 {post : Option AV → Mm → Prop} (E : Ev) (M : Mm) (h2 : M.1 1 2 = E.1 0 2) (hO : ∀ q : Nat, (q : Int) < E.1 0 2 → M.1 50 q = ((kpw E q : Nat) : Int)) (hg : s_ok E) (w : Nat) (hw : w < 24) (hq : post (some (.inl ((s_kb E w (E.1 0 2).toNat : Nat) : Int))) M) : ∀ (n : Nat) (i : Nat), (((i : Nat) : Int) + ((n : Nat) : Int) = E.1 0 2) → en_AW 1 0 39 post 5 [some (.inr (.inr (1, 2, 49))), some (.inr (.inr (1, 1, 1))), some (.inl ((w : Nat) : Int)), some (.inl ((s_kb E w i : Nat) : Int)), some (.inl ((i : Nat) : Int))] [] M 0 := by
  intro n
  induction n with
  | zero =>
    intro i hi
    have n2 := hg.1.2.2.1
    refine aw_39_5 ?_
    refine br_ge_y (a := ((i : Nat) : Int)) (b := M.1 1 2) (by omega) (by omega) (by omega) ?_
    refine aw_39_37 ?_
    rw [show (E.1 0 2).toNat = i by omega] at hq
    exact hq
  | succ n ih =>
    intro i hi
    have n2 := hg.1.2.2.1
    have hb := s_kb_b (w := w) hg (n := i) (by omega)
    refine aw_39_5 ?_
    refine br_ge_n (a := ((i : Nat) : Int)) (b := M.1 1 2) (by omega) (by omega) (by omega) ?_
    refine ⟨i, rfl, (show i < 4 by omega), ?_⟩
    refine en_AW_ls (congrArg (fun z_ : Int => ([some (.inr (.inr (1, 2, 49))), some (.inr (.inr (1, 1, 1))), some (.inl ((w : Nat) : Int)), some (.inl z_), some (.inl (((i : Nat) : Int) + 1))] : AL)) (show en_or ((s_kb E w i : Nat) : Int) (en_shl (en_and (en_shr (M.1 50 i) ((w : Nat) : Int)) 1) ((i : Nat) : Int)) = ((s_kb E w (i + 1) : Nat) : Int) from by rw [hO i (by omega)]; exact nu_keepbit (Nat.lt_trans (kpw_lt hg i) (by decide)) (by omega) hb (by omega))) ?_
    exact ih (i + 1) (by omega)
theorem R_kb2 (E : Ev) (M : Mm) (h2 : M.1 1 2 = E.1 0 2) (hO : ∀ q : Nat, (q : Int) < E.1 0 2 → M.1 50 q = ((kpw E q : Nat) : Int)) (hg : s_ok E) (w : Nat) (hw : w < 24) : en_Ct 1 0 39 [.inr (.inr (1, 2, 49)), .inr (.inr (1, 1, 1)), .inl ((w : Nat) : Int)] M (fun r M' => r = some (.inl (((s_kb E w (E.1 0 2).toNat : Nat) : Int))) ∧ M' = M) := by
  have n2 := hg.1.2.2.1
  refine ct_39 rfl ?_
  refine aw_39_0 ?_
  exact L_kb2 E M h2 hO hg w hw ⟨rfl, rfl⟩ (E.1 0 2).toNat 0 (by omega)
theorem L_er1 {post : Option AV → Mm → Prop} (E : Ev) (M : Mm) (hI : isE M 1 E) (hO : isO M E) (hg : s_ok E) (hx : ∀ K : Mm, (∀ a, a ≠ 16 → K.1 a = M.1 a) → K.2 = M.2 → K.1 16 = f15 E (E.1 0 2).toNat → en_AW 8 0 138 post 55 [some (.inr (.inr (1, 5, 0))), none] [] K 0) : ∀ (n : Nat) (i : Nat) (K : Mm), (((i : Nat) : Int) + ((n : Nat) : Int) = E.1 0 2) → (∀ a, a ≠ 16 → K.1 a = M.1 a) → (K.2 = M.2) → (K.1 16 = f15 E i) → en_AW 8 0 138 post 13 [some (.inr (.inr (1, 5, 0))), some (.inl ((i : Nat) : Int))] [] K 0 := by
  intro n
  induction n with
  | zero =>
    intro i K hi hf hL h15
    obtain ⟨n0, n1, n2, a0, a1, a2, a3, a4, a5, a6, a7⟩ := hg.1
    have k2 : K.1 1 2 = E.1 0 2 := by rw [hf 1 (by decide)]; exact r0_I hI 2
    have k16 : K.1 16 i = E.1 15 i := by rw [h15]; simp [f15]
    refine aw_138_13 ?_
    refine br_ge_y (a := ((i : Nat) : Int)) (b := K.1 1 2) (by omega) (by omega) (by omega) ?_
    refine en_AW_drop [true, false] ?_
    exact hx K hf hL (by rw [show (E.1 0 2).toNat = i by omega]; exact h15)
  | succ n ih =>
    intro i K hi hf hL h15
    obtain ⟨n0, n1, n2, a0, a1, a2, a3, a4, a5, a6, a7⟩ := hg.1
    have k2 : K.1 1 2 = E.1 0 2 := by rw [hf 1 (by decide)]; exact r0_I hI 2
    have k16 : K.1 16 i = E.1 15 i := by rw [h15]; simp [f15]
    refine aw_138_13 ?_
    refine br_ge_n (a := ((i : Nat) : Int)) (b := K.1 1 2) (by omega) (by omega) (by omega) ?_
    refine ⟨i, rfl, (show i < 4 by omega), ?_⟩
    refine ⟨3, 0, by first | decide | omega, by first | decide | omega, en_Ct_eq (X_pin15 (M := M) (K := K) hI hf hO hg (i := i) (by omega)) ?_⟩
    refine ⟨i, rfl, (show i < 4 by omega), ?_⟩
    refine ih (i + 1) _ (by omega) (fun a ha => by rw [wI_ne ha]; exact hf a ha) hL ?_
    rw [wI_row, k16, h15]
    exact f15_s
theorem L_er2 {post : Option AV → Mm → Prop} (E : Ev) (M : Mm) (h1 : M.1 1 1 = E.1 0 1) (h2 : M.1 1 2 = E.1 0 2) (hO : ∀ q : Nat, (q : Int) < E.1 0 2 → M.1 50 q = ((kpw E q : Nat) : Int)) (hg : s_ok E) (hx : ∀ K : Mm, (∀ a, a ≠ 9 → K.1 a = M.1 a) → K.2 = M.2 → K.1 9 = g8 E (E.1 0 2).toNat (E.1 0 1).toNat → en_AW 8 0 138 post 99 [some (.inr (.inr (1, 5, 0))), none] [] K 0) : ∀ (n : Nat) (i : Nat) (K : Mm), (((i : Nat) : Int) + ((n : Nat) : Int) = E.1 0 1) → (∀ a, a ≠ 9 → K.1 a = M.1 a) → (K.2 = M.2) → (K.1 9 = g8 E (E.1 0 2).toNat i) → en_AW 8 0 138 post 57 [some (.inr (.inr (1, 5, 0))), some (.inl ((i : Nat) : Int))] [] K 0 := by
  intro n
  induction n with
  | zero =>
    intro i K hi hf hL h9
    obtain ⟨n0, n1, n2, a0, a1, a2, a3, a4, a5, a6, a7⟩ := hg.1
    have k1 : K.1 1 1 = E.1 0 1 := by rw [hf 1 (by decide)]; exact h1
    have k2 : K.1 1 2 = E.1 0 2 := by rw [hf 1 (by decide)]; exact h2
    have kO : ∀ q : Nat, (q : Int) < E.1 0 2 → K.1 50 q = ((kpw E q : Nat) : Int) := by rw [hf 50 (by decide)]; exact hO
    refine aw_138_57 ?_
    refine br_ge_y (a := ((i : Nat) : Int)) (b := K.1 1 1) (by omega) (by omega) (by omega) ?_
    refine en_AW_drop [true, false] ?_
    exact hx K hf hL (by rw [show (E.1 0 1).toNat = i by omega]; exact h9)
  | succ n ih =>
    intro i K hi hf hL h9
    obtain ⟨n0, n1, n2, a0, a1, a2, a3, a4, a5, a6, a7⟩ := hg.1
    have k1 : K.1 1 1 = E.1 0 1 := by rw [hf 1 (by decide)]; exact h1
    have k2 : K.1 1 2 = E.1 0 2 := by rw [hf 1 (by decide)]; exact h2
    have kO : ∀ q : Nat, (q : Int) < E.1 0 2 → K.1 50 q = ((kpw E q : Nat) : Int) := by rw [hf 50 (by decide)]; exact hO
    refine aw_138_57 ?_
    refine br_ge_n (a := ((i : Nat) : Int)) (b := K.1 1 1) (by omega) (by omega) (by omega) ?_
    refine ⟨1, 0, by first | decide | omega, by first | decide | omega, en_Ct_eq (R_kb2 E K k2 kO hg i (by omega)) ?_⟩
    have kb := s_kb_b (E := E) (w := i) hg (n := (E.1 0 2).toNat) (by omega)
    refine br_eq (a := ((s_kb E i (E.1 0 2).toNat : Nat) : Int)) (b := 0) (by omega) (by omega) (fun q2 => ?_) (fun q2 => ?_)
    · refine aw_138_93 ?_
      exact ih (i + 1) K (by omega) hf hL (by rw [g8_n (by omega)]; exact h9)
    · refine ⟨Or.inr rfl, ?_⟩
      refine ⟨i, rfl, (show i < 24 by omega), ?_⟩
      refine aw_138_93 ?_
      refine ih (i + 1) _ (by omega) (fun a ha => by rw [wI_ne ha]; exact hf a ha) hL ?_
      rw [wI_row, h9, ← g8_s]
      rw [show f8 E (E.1 0 2).toNat i = 1 from if_neg (by omega)]
theorem L_er3 {post : Option AV → Mm → Prop} (E : Ev) (M : Mm) (h2 : M.1 1 2 = E.1 0 2) (hg : s_ok E) (hx : ∀ K : Mm, (∀ a, a ≠ 15 → K.1 a = M.1 a) → K.2 = M.2 → K.1 15 = f14 E (E.1 0 2).toNat → post (some (.inl (K.1 49 1))) K) : ∀ (n : Nat) (i : Nat) (K : Mm), (((i : Nat) : Int) + ((n : Nat) : Int) = E.1 0 2) → (∀ a, a ≠ 15 → K.1 a = M.1 a) → (K.2 = M.2) → (K.1 15 = f14 E i) → en_AW 8 0 138 post 101 [some (.inr (.inr (1, 5, 0))), some (.inl ((i : Nat) : Int))] [] K 0 := by
  intro n
  induction n with
  | zero =>
    intro i K hi hf hL h9
    obtain ⟨n0, n1, n2, a0, a1, a2, a3, a4, a5, a6, a7⟩ := hg.1
    have k2 : K.1 1 2 = E.1 0 2 := by rw [hf 1 (by decide)]; exact h2
    refine aw_138_101 ?_
    refine br_ge_y (a := ((i : Nat) : Int)) (b := K.1 1 2) (by omega) (by omega) (by omega) ?_
    refine aw_138_128 ?_
    exact hx K hf hL (by rw [show (E.1 0 2).toNat = i by omega]; exact h9)
  | succ n ih =>
    intro i K hi hf hL h9
    obtain ⟨n0, n1, n2, a0, a1, a2, a3, a4, a5, a6, a7⟩ := hg.1
    have k2 : K.1 1 2 = E.1 0 2 := by rw [hf 1 (by decide)]; exact h2
    refine aw_138_101 ?_
    refine br_ge_n (a := ((i : Nat) : Int)) (b := K.1 1 2) (by omega) (by omega) (by omega) ?_
    refine ⟨i, rfl, (show i < 4 by omega), ?_⟩
    refine ih (i + 1) _ (by omega) (fun a ha => by rw [wI_ne ha]; exact hf a ha) hL ?_
    rw [wI_row, h9]
    exact f14_s
theorem R_endRound (E : Ev) (M : Mm) (hI : isE M 1 E) (hg : s_ok E) : en_Ct 8 0 138 [.inr (.inr (1, 5, 0))] M (fun r M' => r = some (.inl (s_clr E)) ∧ xE M M' ∧ isE M' 1 (u_round E)) := by
  obtain ⟨n0, n1, n2, a0, a1, a2, a3, a4, a5, a6, a7⟩ := hg.1
  have r1 : M.1 1 1 = E.1 0 1 := r0_I hI 1
  have r2 : M.1 1 2 = E.1 0 2 := r0_I hI 2
  refine ct_138 rfl ?_
  refine aw_138_0 ?_
  refine ⟨4, 0, by first | decide | omega, by first | decide | omega, en_Ct_mono (R_reckon 1 E M hI hg (by omega)) ?_⟩
  rintro _ K1 ⟨rfl, hf, hO⟩
  replace hI := isE_o hI hf (Or.inl (by omega))
  refine L_er1 E K1 hI hO hg (fun K a1 a2 a3 => ?_) (E.1 0 2).toNat 0 K1 (by omega) (fun _ _ => rfl) rfl (by rw [f15_0]; exact hI.1 15 (by decide))
  refine aw_138_55 ?_
  refine L_er2 E K (by rw [a1 1 (by decide)]; exact r0_I hI 1) (by rw [a1 1 (by decide)]; exact r0_I hI 2) (by rw [a1 50 (by decide)]; exact fun q hq => (hO.2.2 q hq).1) hg (fun K' b1 b2 b3 => ?_) (E.1 0 1).toNat 0 K (by omega) (fun _ _ => rfl) rfl (by rw [g8_0, a1 9 (by decide)]; exact hI.1 8 (by decide))
  refine aw_138_99 ?_
  refine L_er3 E K' (by rw [b1 1 (by decide), a1 1 (by decide)]; exact r0_I hI 2) hg (fun K'' c1 c2 c3 => ?_) (E.1 0 2).toNat 0 K' (by omega) (fun _ _ => rfl) rfl (by rw [f14_0, b1 15 (by decide), a1 15 (by decide)]; exact hI.1 14 (by decide))
  refine ⟨?_, ⟨fun a ha => ?_, ?_, fun a _ => by rw [c2, b2, a2, hf.1]⟩, fun r hr => ?_, fun p hp => ?_⟩
  · rw [c1 49 (by decide), b1 49 (by decide), a1 49 (by decide), hO.2.1]
  · rw [c1 a (by omega), b1 a (by omega), a1 a (by omega)]
    exact hf.2 a (by omega)
  · rw [c1 61 (by decide), b1 61 (by decide), a1 61 (by decide), hf.2 61 (by decide)]
  · show K''.1 (1 + r) = (if r = 15 then f15 E (E.1 0 2).toNat else if r = 8 then g8 E (E.1 0 2).toNat (E.1 0 1).toNat else if r = 14 then f14 E (E.1 0 2).toNat else E.1 r)
    by_cases h15 : r = 15
    · subst h15
      rw [if_pos rfl, c1 _ (by decide), b1 _ (by decide)]
      exact a3
    · rw [if_neg h15]
      by_cases h8 : r = 8
      · subst h8
        rw [if_pos rfl, c1 _ (by decide)]
        exact b3
      · rw [if_neg h8]
        by_cases h14 : r = 14
        · subst h14
          rw [if_pos rfl]
          exact c3
        · rw [if_neg h14, c1 _ (by omega), b1 _ (by omega), a1 _ (by omega)]
          exact hI.1 r hr
  · rw [c1 _ (by omega), b1 _ (by omega), a1 _ (by omega)]
    exact hI.2 p hp
