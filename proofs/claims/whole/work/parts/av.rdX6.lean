def frY (M K : Mm) : Prop := (∀ a, a < 33 ∨ (49 ≤ a ∧ a ≠ 61 ∧ a ≠ 63) → K.1 a = M.1 a) ∧ K.1 61 0 = M.1 61 0 ∧ ∀ a, a ≠ 64 → K.2 a = M.2 a
theorem frY_G {M K K' : Mm} (h : frY M K) (h' : frG K K') : frY M K' := ⟨fun a ha => (h'.1 a ha).trans (h.1 a ha), h'.2.1.1.trans h.2.1, fun a ha => (h'.2.2 a ha).trans (h.2.2 a ha)⟩
theorem frY_1 {M K : Mm} {v : Int} (h : frY M K) : frY M (en_wI K 61 1 v) := ⟨fun a ha => by rw [wI_ne (by omega)]; exact h.1 a ha, by rw [w61_n (by decide)]; exact h.2.1, h.2.2⟩
theorem C_stm0 (f : Nat → Int) (Z : Nat) (E : Ev) (hg : s_ok E) (M : Mm) (k : Tk) (h : rd0 f Z E M k) : en_Ct 7 0 50 [.inr (.inr (1, 3, 61)), .inr (.inr (1, 1, 33))] M (fun r M' => outC f Z M M' (stm0 f Z E k) r) := by
  unfold stm0
  rw [stm_g (g' := M.2 64)]
  exact C_stm f Z E hg M k h
def outW (M K : Mm) (T : Option Ev × Nat × Int) (r : Option AV) : Prop := frY M K ∧ K.1 61 1 = T.2.2 ∧ K.1 61 2 = ((T.2.1 : Nat) : Int) ∧ ((T.1 = none ∧ r = some (.inl 0)) ∨ ∃ X, T.1 = some X ∧ r = some (.inl 1) ∧ isE K 33 X)
theorem L_rd {post : Option AV → Mm → Prop} (f : Nat → Int) (Z : Nat) (M : Mm) (T : Option Ev × Nat × Int) (hx : ∀ (K : Mm) (r : Option AV), outW M K T r → post r K) : ∀ (n : Nat) (kk : Nat) (K : Mm) (E : Ev) (b : Nat) (c : Int), Z < b + n → kk ≤ b → b ≤ Z → tpO K 62 f Z → K.1 61 0 = ((Z : Nat) : Int) → K.1 61 3 = ((b : Nat) : Int) → isE K 33 E → s_ok E → frY M K → K.1 61 1 = c → (0 ≤ c ∧ c ≤ b) → rdA f Z n E b c = T → en_AW 8 0 46 post 12 [some (.inr (.inr (1, 3, 61))), some (.inr (.inr (1, 1, 33))), some (.inl ((kk : Nat) : Int))] [] K 0 := by
  intro n
  induction n with
  | zero =>
    intro kk K E b c hn hkb hb
    omega
  | succ n ih =>
    intro kk K E b c hn hkb hb hT1 hz h3 hI hg hF h1 hc hT
    have hZ := hT1.2.1
    refine aw_46_12 ?_
    refine br_gt_n (a := ((kk : Nat) : Int)) (b := 250) (by omega) (by omega) (by omega) ?_
    refine ⟨3, 0, by first | decide | omega, by first | decide | omega, en_Ct_mono (R_tstep f Z K hT1 hz b hb h3) ?_⟩
    rintro _ K1 ⟨rfl, hF1, hR1⟩
    have hkt := tok_ok (f := f) hb
    have hG1 : frG K K1 := frG_N (frN_6 hF1)
    have hrd : rd0 f Z E K1 (tok f Z b) := ⟨tp_N hT1 (frN_6 hF1), by rw [hG1.2.1.1]; exact hz, hkt, hR1, isE_fr hI (fun a z0 z1 => hF1.2.1 a (by omega))⟩
    have hso := stm_ok hg hkt
    by_cases y : (stm0 f Z E (tok f Z b)).1 = none
    · refine ⟨7, 0, by first | decide | omega, by first | decide | omega, en_Ct_mono (out_f (C_stm0 f Z E hg K1 (tok f Z b) hrd) y) ?_⟩
      rintro _ K2 ⟨rfl, ho⟩
      refine br_ne_n (by decide) (by decide) (by decide) ?_
      rw [rdA_n y] at hT
      exact ⟨Or.inl rfl, hx K2 _ (by rw [← hT]; exact ⟨frY_G (frY_G hF hG1) ho.1, by rw [ho.1.2.1.2, hG1.2.1.2]; exact h1, ho.2.1.1, Or.inl ⟨rfl, rfl⟩⟩)⟩
    · refine ⟨7, 0, by first | decide | omega, by first | decide | omega, en_Ct_mono (out_t (C_stm0 f Z E hg K1 (tok f Z b) hrd) y) ?_⟩
      rintro _ K2 ⟨rfl, ho⟩
      have hge := stm_ge hkt y
      have htb := tok_b (f := f) hb
      obtain ⟨ho1, ho2, ho3, ho4⟩ := ho
      have hX : ∃ X, (stm0 f Z E (tok f Z b)).1 = some X ∧ isE K2 33 X := by
        rcases ho4 with ⟨z, -⟩ | ⟨X, z1, -, z2⟩
        · exact absurd z y
        · exact ⟨X, z1, z2⟩
      obtain ⟨X, hX1, hX2⟩ := hX
      obtain ⟨hgX, -⟩ := hso.2 X hX1
      have hFW := frY_G (frY_G hF hG1) ho1
      have k1 : K2.1 61 1 = c := by rw [ho1.2.1.2, hG1.2.1.2]; exact h1
      have kt4 := hso.1.2.1
      obtain ⟨g1, g2, g3⟩ := hge.2
      rw [rdA_s hX1] at hT
      refine br_ne_y (by decide) (by decide) (by decide) ?_
      refine aw_46_33 ?_
      have e4 : (en_wI K2 61 1 (K2.1 61 1 + 1)).1 61 4 = (stm0 f Z E (tok f Z b)).2.2.1 := by rw [w61_n (by decide)]; exact ho2.2.1
      refine br_eq (a := (en_wI K2 61 1 ((K2.1 61 1) + 1)).1 61 4) (b := 3) (by omega) (by omega) (fun q4 => ?_) (fun q4 => ?_)
      · refine aw_46_64 ?_
        rw [if_pos (by omega)] at hT
        exact ih (kk + 1) (en_wI K2 61 1 (K2.1 61 1 + 1)) X (stm0 f Z E (tok f Z b)).2.2.2 (c + 1) (by omega) (by omega) g3 ⟨by rw [wI_ne (by decide)]; exact ho3.1, ho3.2⟩ (by rw [w61_n (by decide), ho1.2.1.1, hG1.2.1.1]; exact hz) (by rw [w61_n (by decide)]; exact ho2.2.2) (isE_fr hX2 (fun a z0 z1 => wI_ne (by omega))) hgX (frY_1 hFW) (by rw [w61_s, k1]) (by omega) hT
      · refine br_ne (a := (en_wI K2 61 1 ((K2.1 61 1) + 1)).1 61 4) (b := 0) (by omega) (by omega) (fun q5 => ?_) (fun q5 => ?_)
        · refine aw_46_62 ?_
          refine aw_46_63 ?_
          rw [if_neg (by omega), if_neg (by omega)] at hT
          exact ⟨Or.inl rfl, hx _ _ (by rw [← hT]; exact ⟨frY_1 hFW, by rw [w61_s, k1], by rw [w61_n (by decide)]; exact ho2.1, Or.inl ⟨rfl, rfl⟩⟩)⟩
        · refine aw_46_63 ?_
          rw [if_neg (by omega), if_pos (by omega)] at hT
          exact ⟨Or.inr rfl, hx _ _ (by rw [← hT]; exact ⟨frY_1 hFW, by rw [w61_s, k1], by rw [w61_n (by decide)]; exact ho2.1, Or.inr ⟨X, rfl, rfl, isE_fr hX2 (fun a z0 z1 => wI_ne (by omega))⟩⟩)⟩
theorem C_read (f : Nat → Int) (Z : Nat) (E : Ev) (hg : s_ok E) (M : Mm) (hT1 : tpO M 62 f Z) (hz : M.1 61 0 = ((Z : Nat) : Int)) (hI : isE M 33 E) : en_Ct 8 0 46 [.inr (.inr (1, 3, 61)), .inr (.inr (1, 1, 33))] M (fun r M' => outW M M' (rdA f Z (Z + 1) E 0 0) r) := by
  refine ct_46 rfl ?_
  refine aw_46_0 ?_
  exact L_rd f Z M (rdA f Z (Z + 1) E 0 0) (fun K r h => h) (Z + 1) 0 (en_wI (en_wI M 61 1 0) 61 3 0) E 0 0 (by omega) (Nat.le_refl _) (Nat.zero_le _) ⟨by rw [wI_ne (by decide), wI_ne (by decide)]; exact hT1.1, hT1.2⟩ (by rw [w61_n (by decide), w61_n (by decide)]; exact hz) w61_s (isE_fr hI (fun a z0 z1 => by rw [wI_ne (by omega), wI_ne (by omega)])) hg ⟨fun a ha => by rw [wI_ne (by omega), wI_ne (by omega)], by rw [w61_n (by decide), w61_n (by decide)], fun _ _ => rfl⟩ (by rw [w61_n (by decide), w61_s]) ⟨Int.le_refl _, Int.le_refl _⟩ rfl
