/-! the reference reads -/
def rdM (f : Nat → Int) (Z : Nat) (E : Ev) (M K : Mm) (k : Tk) : Prop := tpO K 99 f Z ∧ K.1 84 7 = ((Z : Nat) : Int) ∧ tkO f Z k ∧ isL K f k ∧ isM K 84 E
theorem D_look {f : Nat → Int} {Z : Nat} {E : Ev} {M K : Mm} {k : Tk} (h : rdM f Z E M K k) : en_Ct 3 0 175 [.inr (.inr (1, 6, 84))] K (fun r K' => r = none ∧ rdM f Z E M K' (tok f Z k.2.2) ∧ fr84 K K') := by
  obtain ⟨h1, h2, h3, h4, h5⟩ := h
  refine en_Ct_mono (R_look f Z K h1 h2 k.2.2 h3.1.2 h4.2.2.1) ?_
  rintro r K' ⟨g1, g2, g3⟩
  exact ⟨g1, ⟨⟨by rw [g2.2.1 99 (by decide)]; exact h1.1, h1.2⟩, by rw [g2.2.2 7 (by decide) (by decide) (by decide) (by decide)]; exact h2, tok_ok h3.1.2, g3, isM_fr h5 (fun i hi => g2.2.2 i (by omega) (by omega) (by omega) (by omega)) (fun a z0 z1 => g2.2.1 a (by omega))⟩, g2⟩
theorem D_nbT {f : Nat → Int} {Z : Nat} {E : Ev} {M K : Mm} {k : Tk} (h : rdM f Z E M K k) {c : Nat} (hc : c < 5) {lo hi : Int} (hlo : 0 ≤ lo ∧ lo ≤ 600) (hhi : -1 ≤ hi ∧ hi ≤ 600) (hok : numO f k lo hi) : en_Ct 4 0 178 [.inr (.inr (1, 6, 84)), .inl ((c : Nat) : Int), .inl lo, .inl hi] K (fun r K' => r = some (.inl 1) ∧ rdM f Z E M K' (tok f Z k.2.2) ∧ frH K K' ∧ ∀ i, K'.1 116 i = if i = c then vl f k else K.1 116 i) := by
  obtain ⟨h1, h2, h3, h4, h5⟩ := h
  refine en_Ct_mono (R_nbT f Z K h1 h2 k h3.1 h3.2.1 h3.2.2.1 h4 c hc lo hi hlo hhi hok) ?_
  rintro r K' ⟨g1, g2, g3, g4⟩
  exact ⟨g1, ⟨tp_H h1 g2, by rw [g2.2.2 7 (by decide) (by decide) (by decide) (by decide) (by decide)]; exact h2, tok_ok h3.1.2, g3, isM_fr h5 (fun i hi => g2.2.2 i (by omega) (by omega) (by omega) (by omega) (by omega)) (fun a z0 z1 => g2.2.1 a (by omega) (by omega))⟩, g2, g4⟩
theorem D_nbF {f : Nat → Int} {Z : Nat} {E : Ev} {M K : Mm} {k : Tk} (h : rdM f Z E M K k) {c : Nat} (hc : c < 5) {lo hi : Int} (hlo : 0 ≤ lo ∧ lo ≤ 600) (hhi : -1 ≤ hi ∧ hi ≤ 600) (hok : ¬ numO f k lo hi) : en_Ct 4 0 178 [.inr (.inr (1, 6, 84)), .inl ((c : Nat) : Int), .inl lo, .inl hi] K (fun r K' => r = some (.inl 0) ∧ frH K K' ∧ K'.1 84 30 = ((k.1 : Nat) : Int)) := by
  obtain ⟨h1, h2, h3, h4, h5⟩ := h
  exact R_nbF f Z K h1 h2 k h3.1 h3.2.1 h3.2.2.1 h4 c hc lo hi hlo hhi hok
theorem D_telT (f : Nat → Int) (Z : Nat) (E : Ev) (B M : Mm) (k : Tk) (h : rdM f Z E B M k) (lo hi : Int) (hlo : 0 ≤ lo ∧ lo ≤ 600) (hhi : -1 ≤ hi ∧ hi ≤ 600) (hok : numO f (tok f Z k.2.2) lo hi) : en_Ct 5 0 179 [.inr (.inr (1, 6, 84)), .inl lo, .inl hi] M (fun r M' => r = some (.inl 1) ∧ rdM f Z E B M' (tok f Z (tok f Z k.2.2).2.2) ∧ frH M M' ∧ M'.1 116 0 = vl f (tok f Z k.2.2)) := by
  refine ct_179 rfl ?_
  refine aw_179_0 ?_
  refine ⟨3, 0, by first | decide | omega, by first | decide | omega, en_Ct_mono (D_look h) ?_⟩
  rintro _ K1 ⟨rfl, h1, hF1⟩
  refine ⟨4, 0, by first | decide | omega, by first | decide | omega, en_Ct_mono (D_nbT (c := 0) h1 (by decide) hlo hhi hok) ?_⟩
  rintro _ K2 ⟨rfl, h2, hF2, n2⟩
  exact ⟨Or.inr rfl, rfl, h2, frH_tr (frH_8 hF1) hF2, (n2 0).trans (if_pos rfl)⟩
theorem D_telF (f : Nat → Int) (Z : Nat) (E : Ev) (B M : Mm) (k : Tk) (h : rdM f Z E B M k) (lo hi : Int) (hlo : 0 ≤ lo ∧ lo ≤ 600) (hhi : -1 ≤ hi ∧ hi ≤ 600) (hok : ¬ numO f (tok f Z k.2.2) lo hi) : en_Ct 5 0 179 [.inr (.inr (1, 6, 84)), .inl lo, .inl hi] M (fun r M' => r = some (.inl 0) ∧ frH M M' ∧ M'.1 84 30 = (((tok f Z k.2.2).1 : Nat) : Int)) := by
  refine ct_179 rfl ?_
  refine aw_179_0 ?_
  refine ⟨3, 0, by first | decide | omega, by first | decide | omega, en_Ct_mono (D_look h) ?_⟩
  rintro _ K1 ⟨rfl, h1, hF1⟩
  refine ⟨4, 0, by first | decide | omega, by first | decide | omega, en_Ct_mono (D_nbF (c := 0) h1 (by decide) hlo hhi hok) ?_⟩
  rintro _ K2 ⟨rfl, hF2, n2⟩
  exact ⟨Or.inl rfl, rfl, frH_tr (frH_8 hF1) hF2, n2⟩
theorem D_ahT {f : Nat → Int} {Z : Nat} {E : Ev} {M K : Mm} {k : Tk} (h : rdM f Z E M K k) {c : Nat} (hc : c < 6) (hok : k.2.1 = 2 ∧ okA ((c : Nat) : Int) (vl f k)) : en_Ct 4 0 181 [.inr (.inr (1, 6, 84)), .inl ((c : Nat) : Int)] K (fun r K' => r = some (.inl 1) ∧ rdM f Z (u_ask E ((c : Nat) : Int) (vl f k)) M K' (tok f Z k.2.2) ∧ fr84 (en_wI K 115 c (vl f k)) K') := by
  obtain ⟨h1, h2, h3, h4, h5⟩ := h
  refine en_Ct_mono (R_ahT f Z K h1 h2 k h3.1 h3.2.1 h3.2.2.1 h4 c hc hok) ?_
  rintro r K' ⟨g1, g2, g3⟩
  have h6 : isM (en_wI K 115 c (vl f k)) 84 (u_ask E ((c : Nat) : Int) (vl f k)) := isM_w h5 (a := 115) (r := 1) (by decide) c _
  exact ⟨g1, ⟨⟨by rw [g2.2.1 99 (by decide), wI_ne (by decide)]; exact h1.1, h1.2⟩, by rw [g2.2.2 7 (by decide) (by decide) (by decide) (by decide), wI_ne (by decide)]; exact h2, tok_ok h3.1.2, g3, isM_fr h6 (fun i hi => g2.2.2 i (by omega) (by omega) (by omega) (by omega)) (fun a z0 z1 => g2.2.1 a (by omega))⟩, g2⟩
theorem D_ahF {f : Nat → Int} {Z : Nat} {E : Ev} {M K : Mm} {k : Tk} (h : rdM f Z E M K k) {c : Nat} (hc : c < 6) (hok : ¬ (k.2.1 = 2 ∧ okA ((c : Nat) : Int) (vl f k))) : en_Ct 4 0 181 [.inr (.inr (1, 6, 84)), .inl ((c : Nat) : Int)] K (fun r K' => r = some (.inl 0) ∧ frH K K' ∧ K'.1 84 30 = ((k.1 : Nat) : Int)) := by
  obtain ⟨h1, h2, h3, h4, h5⟩ := h
  exact R_ahF f Z K h1 h2 k h3.1 h3.2.1 h3.2.2.1 h4 c hc hok
