/-! the reference reads the tape -/
def frR (M K : Mm) : Prop := (∀ a, a < 84 ∨ (85 ≤ a ∧ a < 101) ∨ 118 ≤ a → K.1 a = M.1 a) ∧ (∀ i, i = 7 ∨ i = 23 ∨ i = 24 ∨ i = 25 → K.1 84 i = M.1 84 i) ∧ ∀ a, a ≠ 117 → K.2 a = M.2 a
theorem frR_M {M K K' : Mm} (h : frR M K) (h' : frM K K') : frR M K' := ⟨fun a ha => (h'.1 a ha).trans (h.1 a ha), fun i hi => (h'.2.1 i (by omega)).trans (h.2.1 i hi), fun a ha => (h'.2.2 a ha).trans (h.2.2 a ha)⟩
theorem frR_s {M K : Mm} {s : Nat} {v : Int} (h : frR M K) (hs : s = 26 ∨ s = 30 ∨ s = 33) : frR M (en_wI K 84 s v) := ⟨fun b hb => by rw [wI_ne (by omega)]; exact h.1 b hb, fun j hj => by rw [w84_n (by omega)]; exact h.2.1 j hj, h.2.2⟩
theorem rdM_33 {f : Nat → Int} {Z : Nat} {E : Ev} {B M K : Mm} {k : Tk} {v : Int} (h : rdM f Z E B K k) : rdM f Z E M (en_wI K 84 33 v) k := by
  obtain ⟨h1, h2, h3, h4, h5⟩ := h
  exact ⟨⟨by rw [wI_ne (by omega)]; exact h1.1, h1.2⟩, by rw [w84_n (by decide)]; exact h2, h3, ⟨by rw [w84_n (by decide)]; exact h4.1, by rw [w84_n (by decide)]; exact h4.2.1, by rw [w84_n (by decide)]; exact h4.2.2.1, by rw [w84_n (by decide)]; exact h4.2.2.2⟩, isM_fr h5 (fun i hi => w84_n (by omega)) (fun a z0 z1 => wI_ne (by omega))⟩
def outR (M K : Mm) (T : Option Ev × Nat × Int) (r : Option AV) : Prop := frR M K ∧ ((T.1 = none ∧ r = some (.inl 0) ∧ K.1 84 30 = ((T.2.1 : Nat) : Int)) ∨ ∃ X, T.1 = some X ∧ r = some (.inl 1) ∧ isM K 84 X ∧ K.1 84 33 = T.2.2)
def tlA (f : Nat → Int) (Z n : Nat) (X : Ev) (k : Tk) (c : Int) : Option Ev × Nat × Int := if k.2.1 = 3 then rdA f Z n X k.2.2 c else if k.2.1 = 0 then (some X, k.1, c) else (none, k.1, c)
theorem outR_f {h kk : Nat} {as : List AV} {M : Mm} {R : Option Ev × Nat × Int} (hc : en_Ct h 0 kk as M (fun r M' => outR M M' R r)) (hR : R.1 = none) : en_Ct h 0 kk as M (fun r M' => r = some (.inl 0) ∧ frR M M' ∧ M'.1 84 30 = ((R.2.1 : Nat) : Int)) := by
  refine en_Ct_mono hc ?_
  intro r M' ho
  rcases ho.2 with ⟨-, z, z2⟩ | ⟨X, z, -⟩
  · exact ⟨z, ho.1, z2⟩
  · rw [hR] at z; cases z
theorem outR_t {h kk : Nat} {as : List AV} {M : Mm} {R : Option Ev × Nat × Int} (hc : en_Ct h 0 kk as M (fun r M' => outR M M' R r)) (hR : ¬ R.1 = none) : en_Ct h 0 kk as M (fun r M' => r = some (.inl 1) ∧ frR M M' ∧ M'.1 84 33 = R.2.2 ∧ ∃ X, R.1 = some X ∧ isM M' 84 X) := by
  refine en_Ct_mono hc ?_
  intro r M' ho
  rcases ho.2 with ⟨z, -⟩ | ⟨X, z1, z, z2, z3⟩
  · exact absurd z hR
  · exact ⟨z, ho.1, z3, X, z1, z2⟩
theorem L_ra {post : Option AV → Mm → Prop} (f : Nat → Int) (Z : Nat) (M : Mm) (T : Option Ev × Nat × Int) (hx : ∀ (K : Mm) (r : Option AV), outR M K T r → post r K) : ∀ (n : Nat) (K : Mm) (X : Ev) (k : Tk) (c : Int), Z < k.2.2 + n → rdM f Z X K K k → s_ok X → frR M K → K.1 84 33 = c → tlA f Z n X k c = T → en_AW 8 0 184 post 23 [some (.inr (.inr (1, 6, 84)))] [] K 0 := by
  intro n
  induction n with
  | zero =>
    intro K X k c hn h
    have := h.2.2.1.1.2
    omega
  | succ n ih =>
    intro K X k c hn h hg hF h33 hT
    obtain ⟨h1, h2, h3, h4, h5⟩ := id h
    have k27 : K.1 84 27 = k.2.1 := h4.2.1
    have kb := h3.2.1
    refine aw_184_23 ?_
    refine br_eq (a := K.1 84 27) (b := 0) (by omega) (by omega) (fun q1 => ?_) (fun q1 => ?_)
    · refine aw_184_69 ?_
      exact ⟨Or.inr rfl, hx _ _ (by rw [← hT]; unfold tlA; rw [if_neg (by omega), if_pos (by omega)]; exact ⟨hF, Or.inr ⟨X, rfl, rfl, h5, h33⟩⟩)⟩
    · refine br_eq (a := K.1 84 27) (b := 3) (by omega) (by omega) (fun q2 => ?_) (fun q2 => ?_)
      · refine aw_184_43 ?_
        refine ⟨3, 0, by first | decide | omega, by first | decide | omega, en_Ct_mono (D_look h) ?_⟩
        rintro _ K1 ⟨rfl, hK1, hF1⟩
        have hso := stm_ok hg (tok_ok (f := f) h3.1.2)
        have htb := tok_b (f := f) h3.1.2
        by_cases y : (stm0 f Z X (tok f Z k.2.2)).1 = none
        · refine ⟨7, 0, by first | decide | omega, by first | decide | omega, en_Ct_mono (outM_f (D_stm f Z X hg K1 (tok f Z k.2.2) hK1) y) ?_⟩
          rintro _ K2 ⟨rfl, ho⟩
          have h30 : K2.1 84 30 = (((stm0 f Z X (tok f Z k.2.2)).2.1 : Nat) : Int) := by
            rcases ho.2 with ⟨-, -, z⟩ | ⟨X', z, -⟩
            · exact z
            · rw [y] at z; cases z
          refine br_ne_n (by decide) (by decide) (by decide) ?_
          rw [tlA, if_pos (by omega), rdA_n y] at hT
          exact ⟨Or.inl rfl, hx _ _ (by rw [← hT]; exact ⟨frR_M (frR_M hF (frM_8 hF1)) ho.1, Or.inl ⟨rfl, rfl, h30⟩⟩)⟩
        · refine ⟨7, 0, by first | decide | omega, by first | decide | omega, en_Ct_mono (outM_t (D_stm f Z X hg K1 (tok f Z k.2.2) hK1) y) ?_⟩
          rintro _ K2 ⟨rfl, ho⟩
          have hX : ∃ X', (stm0 f Z X (tok f Z k.2.2)).1 = some X' ∧ rdM f Z X' K2 K2 (stm0 f Z X (tok f Z k.2.2)).2 := by
            rcases ho.2 with ⟨z, -⟩ | ⟨X', z1, -, z2⟩
            · exact absurd z y
            · exact ⟨X', z1, z2⟩
          obtain ⟨X', hX1, hX2⟩ := hX
          obtain ⟨hgX, -⟩ := hso.2 X' hX1
          have hge := stm_ge (tok_ok (f := f) h3.1.2) y
          obtain ⟨g0, g1, g2, g3⟩ := hge
          refine br_ne_y (by decide) (by decide) (by decide) ?_
          refine aw_184_56 ?_
          rw [tlA, if_pos (by omega), rdA_s hX1] at hT
          exact ih (en_wI K2 84 33 (K2.1 84 33 + 1)) X' (stm0 f Z X (tok f Z k.2.2)).2 (c + 1) (by omega) (rdM_33 hX2) hgX (frR_s (frR_M (frR_M hF (frM_8 hF1)) ho.1) (by decide)) (by rw [w84_s, ho.1.2.1 33 (by decide), (frM_8 hF1).2.1 33 (by decide), h33]) hT
      · refine ⟨1, 0, by first | decide | omega, by first | decide | omega, en_Ct_eq (R_wrong K) ?_⟩
        exact ⟨Or.inl rfl, hx _ _ (by rw [← hT]; unfold tlA; rw [if_neg (by omega), if_neg (by omega)]; exact ⟨frR_s hF (by decide), Or.inl ⟨rfl, rfl, by rw [w84_s]; exact h4.1⟩⟩)⟩
theorem D_rdA (f : Nat → Int) (Z : Nat) (E : Ev) (hg : s_ok E) (M : Mm) (hT : tpO M 99 f Z) (hz : M.1 84 7 = ((Z : Nat) : Int)) (hJ : isM M 84 E) : en_Ct 8 0 184 [.inr (.inr (1, 6, 84))] M (fun r M' => outR M M' (rdA f Z (Z + 1) E 0 0) r) := by
  refine ct_184 rfl ?_
  refine aw_184_0 ?_
  have hT0 : tpO (en_wI (en_wI M 84 33 1) 84 26 0) 99 f Z := ⟨by rw [wI_ne (by decide), wI_ne (by decide)]; exact hT.1, hT.2⟩
  have hz0 : (en_wI (en_wI M 84 33 1) 84 26 0).1 84 7 = ((Z : Nat) : Int) := by rw [w84_n (by decide), w84_n (by decide)]; exact hz
  have h26 : (en_wI (en_wI M 84 33 1) 84 26 0).1 84 26 = ((0 : Nat) : Int) := by rw [w84_s]; rfl
  have hJ0 : isM (en_wI (en_wI M 84 33 1) 84 26 0) 84 E := isM_fr hJ (fun i hi => by rw [w84_n (by omega), w84_n (by omega)]) (fun a z0 z1 => by rw [wI_ne (by omega), wI_ne (by omega)])
  have hF0 : frR M (en_wI (en_wI M 84 33 1) 84 26 0) := frR_s (frR_s ⟨fun _ _ => rfl, fun _ _ => rfl, fun _ _ => rfl⟩ (by decide)) (by decide)
  have hZ := hT.2.1
  refine ⟨3, 0, by first | decide | omega, by first | decide | omega, en_Ct_mono (R_look f Z (en_wI (en_wI M 84 33 1) 84 26 0) hT0 hz0 0 (Nat.zero_le _) h26) ?_⟩
  rintro _ K1 ⟨rfl, hF1, hL1⟩
  have hK1 : rdM f Z E K1 K1 (tok f Z 0) := ⟨⟨by rw [hF1.2.1 99 (by decide)]; exact hT0.1, hT.2⟩, by rw [hF1.2.2 7 (by decide) (by decide) (by decide) (by decide)]; exact hz0, tok_ok (Nat.zero_le _), hL1, isM_fr hJ0 (fun i hi => hF1.2.2 i (by omega) (by omega) (by omega) (by omega)) (fun a z0 z1 => hF1.2.1 a (by omega))⟩
  have hso := stm_ok hg (tok_ok (f := f) (Nat.zero_le Z))
  by_cases y : (stm0 f Z E (tok f Z 0)).1 = none
  · refine ⟨7, 0, by first | decide | omega, by first | decide | omega, en_Ct_mono (outM_f (D_stm f Z E hg K1 (tok f Z 0) hK1) y) ?_⟩
    rintro _ K2 ⟨rfl, ho⟩
    have h30 : K2.1 84 30 = (((stm0 f Z E (tok f Z 0)).2.1 : Nat) : Int) := by
      rcases ho.2 with ⟨-, -, z⟩ | ⟨X', z, -⟩
      · exact z
      · rw [y] at z; cases z
    refine br_ne_n (by decide) (by decide) (by decide) ?_
    exact ⟨Or.inl rfl, by rw [rdA_n y]; exact ⟨frR_M (frR_M hF0 (frM_8 hF1)) ho.1, Or.inl ⟨rfl, rfl, h30⟩⟩⟩
  · refine ⟨7, 0, by first | decide | omega, by first | decide | omega, en_Ct_mono (outM_t (D_stm f Z E hg K1 (tok f Z 0) hK1) y) ?_⟩
    rintro _ K2 ⟨rfl, ho⟩
    have hX : ∃ X', (stm0 f Z E (tok f Z 0)).1 = some X' ∧ rdM f Z X' K2 K2 (stm0 f Z E (tok f Z 0)).2 := by
      rcases ho.2 with ⟨z, -⟩ | ⟨X', z1, -, z2⟩
      · exact absurd z y
      · exact ⟨X', z1, z2⟩
    obtain ⟨X', hX1, hX2⟩ := hX
    obtain ⟨hgX, -⟩ := hso.2 X' hX1
    have hge := stm_ge (tok_ok (f := f) (Nat.zero_le Z)) y
    obtain ⟨g0, g1, g2, g3⟩ := hge
    refine br_ne_y (by decide) (by decide) (by decide) ?_
    exact L_ra f Z M (rdA f Z (Z + 1) E 0 0) (fun K r h => h) Z K2 X' (stm0 f Z E (tok f Z 0)).2 1 (by omega) hX2 hgX (frR_M (frR_M hF0 (frM_8 hF1)) ho.1) (by rw [ho.1.2.1 33 (by decide), (frM_8 hF1).2.1 33 (by decide), w84_n (by decide), w84_s]) (by rw [rdA_s hX1]; rfl)
