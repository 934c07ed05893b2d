/-! the class reads -/
def frG (M K : Mm) : Prop := (∀ a, a < 33 ∨ (49 ≤ a ∧ a ≠ 61 ∧ a ≠ 63) → K.1 a = M.1 a) ∧ (K.1 61 0 = M.1 61 0 ∧ K.1 61 1 = M.1 61 1) ∧ ∀ a, a ≠ 64 → K.2 a = M.2 a
theorem frG_rfl {M : Mm} : frG M M := ⟨fun _ _ => rfl, ⟨rfl, rfl⟩, fun _ _ => rfl⟩
theorem frG_tr {M K K' : Mm} (h : frG M K) (h' : frG K K') : frG M K' := ⟨fun a ha => (h'.1 a ha).trans (h.1 a ha), ⟨h'.2.1.1.trans h.2.1.1, h'.2.1.2.trans h.2.1.2⟩, fun a ha => (h'.2.2 a ha).trans (h.2.2 a ha)⟩
theorem frG_N {M K : Mm} (h : frN M K) : frG M K := ⟨fun a ha => h.2.1 a (by omega) (by omega), ⟨h.2.2 0 (by decide) (by decide) (by decide) (by decide), h.2.2 1 (by decide) (by decide) (by decide) (by decide)⟩, fun a _ => by rw [h.1]⟩
theorem frG_w {M K : Mm} {a i : Nat} {v : Int} (h : frG M K) (ha : 33 ≤ a ∧ a < 49) : frG M (en_wI K a i v) := ⟨fun b hb => by rw [wI_ne (by omega)]; exact h.1 b hb, ⟨by rw [wI_ne (by omega)]; exact h.2.1.1, by rw [wI_ne (by omega)]; exact h.2.1.2⟩, h.2.2⟩
def rdI (f : Nat → Int) (Z : Nat) (E : Ev) (M K : Mm) (k : Tk) (c : Nat) : Prop := tpO K 62 f Z ∧ K.1 61 0 = ((Z : Nat) : Int) ∧ tkO f Z k ∧ isR K k ∧ K.1 61 8 = ((c : Nat) : Int) ∧ isE K 33 E ∧ frG M K
theorem C_step {f : Nat → Int} {Z : Nat} {E : Ev} {M K : Mm} {k : Tk} {c : Nat} (h : rdI f Z E M K k c) : en_Ct 3 0 47 [.inr (.inr (1, 3, 61))] K (fun r K' => r = none ∧ rdI f Z E M K' (tok f Z k.2.2) c ∧ K'.1 63 = K.1 63 ∧ K'.2 = K.2) := by
  obtain ⟨h1, h2, h3, h4, h5, h6, h7⟩ := h
  refine en_Ct_mono (R_tstep f Z K h1 h2 k.2.2 h3.1.2 h4.2.2) ?_
  rintro r K' ⟨g1, g2, g3⟩
  have hN := frN_6 g2
  exact ⟨g1, ⟨tp_N h1 hN, by rw [g2.2.2 0 (by decide) (by decide) (by decide)]; exact h2, tok_ok h3.1.2, g3, by rw [g2.2.2 8 (by decide) (by decide) (by decide)]; exact h5, isE_fr h6 (fun a z0 z1 => g2.2.1 a (by omega)), frG_tr h7 (frG_N hN)⟩, g2.2.1 63 (by decide), g2.1⟩
theorem C_rnT {f : Nat → Int} {Z : Nat} {E : Ev} {M K : Mm} {k : Tk} {c : Nat} (h : rdI f Z E M K k c) (hc : c < 5) {lo hi : Int} (hlo : 0 ≤ lo ∧ lo ≤ 600) (hhi : -1 ≤ hi ∧ hi ≤ 600) (hok : numO f k lo hi) : en_Ct 4 0 57 [.inr (.inr (1, 3, 61)), .inl lo, .inl hi] K (fun r K' => r = some (.inl 1) ∧ rdI f Z E M K' (tok f Z k.2.2) (c + 1) ∧ (∀ i, K'.1 63 i = if i = c then vl f k else K.1 63 i) ∧ K'.2 = K.2) := by
  obtain ⟨h1, h2, h3, h4, h5, h6, h7⟩ := h
  refine en_Ct_mono (R_rnT f Z K h1 h2 k h3.1 h3.2.1 h3.2.2.1 h4 c hc h5 lo hi hlo hhi hok) ?_
  rintro r K' ⟨g1, g2, g3, g4, g5⟩
  exact ⟨g1, ⟨tp_N h1 g2, by rw [g2.2.2 0 (by decide) (by decide) (by decide) (by decide)]; exact h2, tok_ok h3.1.2, g3, by rw [g4]; rfl, isE_fr h6 (fun a z0 z1 => g2.2.1 a (by omega) (by omega)), frG_tr h7 (frG_N g2)⟩, g5, g2.1⟩
theorem C_rnF {f : Nat → Int} {Z : Nat} {E : Ev} {M K : Mm} {k : Tk} {c : Nat} (h : rdI f Z E M K k c) (hc : c < 5) {lo hi : Int} (hlo : 0 ≤ lo ∧ lo ≤ 600) (hhi : -1 ≤ hi ∧ hi ≤ 600) (hok : ¬ numO f k lo hi) : en_Ct 4 0 57 [.inr (.inr (1, 3, 61)), .inl lo, .inl hi] K (fun r K' => r = some (.inl 0) ∧ K' = K) := by
  obtain ⟨h1, h2, h3, h4, h5, h6, h7⟩ := h
  exact R_rnF f Z K h1 h2 k h3.1 h3.2.1 h3.2.2.1 h4 c hc h5 lo hi hlo hhi hok
theorem rn_t {f : Nat → Int} {Z : Nat} {k : Tk} {lo hi : Int} {c : Int → Tk → Rs} (h : numO f k lo hi) : rn f Z k lo hi c = c (vl f k) (tok f Z k.2.2) := if_pos h
theorem rn_f {f : Nat → Int} {Z : Nat} {k : Tk} {lo hi : Int} {c : Int → Tk → Rs} (h : ¬ numO f k lo hi) : rn f Z k lo hi c = (none, k) := if_neg h
/-- behind a statement: what it says -/
def outC (f : Nat → Int) (Z : Nat) (M K : Mm) (R : Rs) (r : Option AV) : Prop := frG M K ∧ isR K R.2 ∧ tpO K 62 f Z ∧ ((R.1 = none ∧ r = some (.inl 0)) ∨ ∃ X, R.1 = some X ∧ r = some (.inl 1) ∧ isE K 33 X)
theorem out_no {f : Nat → Int} {Z : Nat} {E : Ev} {M K : Mm} {k : Tk} {c : Nat} {R : Rs} (h : rdI f Z E M K k c) (e : R = (none, k)) : outC f Z M K R (some (.inl 0)) := by
  rw [e]
  exact ⟨h.2.2.2.2.2.2, h.2.2.2.1, h.1, Or.inl ⟨rfl, rfl⟩⟩
theorem out_so {f : Nat → Int} {Z : Nat} {E X : Ev} {M K K' : Mm} {k : Tk} {c : Nat} {R : Rs} (h : rdI f Z E M K k c) (e : R = (some X, k)) (hF : frG M K') (h61 : K'.1 61 = K.1 61) (h62 : K'.1 62 = K.1 62) (hX : isE K' 33 X) : outC f Z M K' R (some (.inl 1)) := by
  rw [e]
  refine ⟨hF, ?_, ⟨by rw [h62]; exact h.1.1, h.1.2⟩, Or.inr ⟨X, rfl, rfl, hX⟩⟩
  obtain ⟨z1, z2, z3⟩ := h.2.2.2.1
  exact ⟨by rw [h61]; exact z1, by rw [h61]; exact z2, by rw [h61]; exact z3⟩
theorem C_col (f : Nat → Int) (Z : Nat) (E : Ev) (hg : s_ok E) (M : Mm) (k : Tk) (h : rdI f Z E M M k 0) : en_Ct 5 0 51 [.inr (.inr (1, 3, 61)), .inr (.inr (1, 1, 33))] M (fun r M' => outC f Z M M' (sCol f Z E (tok f Z k.2.2)) r) := by
  obtain ⟨n0, n1, n2, -⟩ := hg.1
  refine ct_51 rfl ?_
  refine aw_51_0 ?_
  refine ⟨3, 0, by first | decide | omega, by first | decide | omega, en_Ct_mono (C_step h) ?_⟩
  rintro _ K1 ⟨rfl, hK1, nK1, lK1⟩
  by_cases c3 : numO f (tok f Z k.2.2) 1 5
  · refine ⟨4, 0, by first | decide | omega, by first | decide | omega, en_Ct_mono (C_rnT hK1 (by decide) (lo := 1) (hi := 5) (by omega) (by omega) c3) ?_⟩
    rintro _ K2 ⟨rfl, hK2, nK2, lK2⟩
    refine br_ne_y (by decide) (by decide) (by decide) ?_
    refine aw_51_15 ?_
    refine ⟨0, rfl, (show 0 < 5 by omega), ?_⟩
    have ev : K2.1 63 0 = vl f (tok f Z k.2.2) := by rw [nK2 0]; rfl
    refine ⟨Or.inr rfl, out_so (X := u_columns E (vl f (tok f Z k.2.2))) hK2 (by unfold sCol; exact rn_t c3) (frG_w hK2.2.2.2.2.2.2 (by decide)) (wI_ne (by decide)) (wI_ne (by decide)) ?_⟩
    rw [← ev]
    exact isE_w hK2.2.2.2.2.2.1 (r := 0) (by decide) 0 _
  · refine ⟨4, 0, by first | decide | omega, by first | decide | omega, en_Ct_eq (C_rnF hK1 (by decide) (lo := 1) (hi := 5) (by omega) (by omega) c3) ?_⟩
    refine br_ne_n (by decide) (by decide) (by decide) ?_
    exact ⟨Or.inl rfl, out_no hK1 (by unfold sCol; exact rn_f c3)⟩
