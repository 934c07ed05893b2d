/-! the reference reads a statement -/
def frM (M K : Mm) : Prop := (∀ a, a < 84 ∨ (85 ≤ a ∧ a < 101) ∨ 118 ≤ a → K.1 a = M.1 a) ∧ (∀ i, i = 7 ∨ i = 23 ∨ i = 24 ∨ i = 25 ∨ i = 33 → K.1 84 i = M.1 84 i) ∧ ∀ a, a ≠ 117 → K.2 a = M.2 a
theorem frM_rfl {M : Mm} : frM M M := ⟨fun _ _ => rfl, fun _ _ => rfl, fun _ _ => rfl⟩
theorem frM_tr {M K K' : Mm} (h : frM M K) (h' : frM K K') : frM M K' := ⟨fun a ha => (h'.1 a ha).trans (h.1 a ha), fun i hi => (h'.2.1 i hi).trans (h.2.1 i hi), fun a ha => (h'.2.2 a ha).trans (h.2.2 a ha)⟩
theorem frM_H {M K : Mm} (h : frH M K) : frM M K := ⟨fun a ha => h.2.1 a (by omega) (by omega), fun i hi => h.2.2 i (by omega) (by omega) (by omega) (by omega) (by omega), fun a _ => by rw [h.1]⟩
theorem frM_8 {M K : Mm} (h : fr84 M K) : frM M K := frM_H (frH_8 h)
theorem frM_w {M K : Mm} {a i : Nat} {v : Int} (h : frM M K) (ha : 101 ≤ a ∧ a < 118) : frM M (en_wI K a i v) := ⟨fun b hb => by rw [wI_ne (by omega)]; exact h.1 b hb, fun j hj => by rw [wI_ne (by omega)]; exact h.2.1 j hj, h.2.2⟩
theorem frM_s {M K : Mm} {s : Nat} {v : Int} (h : frM M K) (hs : s = 9 ∨ s = 10 ∨ s = 18 ∨ s = 30) : frM M (en_wI K 84 s v) := ⟨fun b hb => by rw [wI_ne (by omega)]; exact h.1 b hb, fun j hj => by rw [w84_n (by omega)]; exact h.2.1 j hj, h.2.2⟩
theorem frM_L {M K : Mm} {i : Nat} {v : Int} (h : frM M K) : frM M (en_wL K 117 i v) := ⟨h.1, h.2.1, fun a ha => by rw [wL_o ha]; exact h.2.2 a ha⟩
theorem rdM_w {f : Nat → Int} {Z : Nat} {E : Ev} {M K : Mm} {k : Tk} (h : rdM f Z E M K k) {a r : Nat} (hr : (2 ≤ r ∧ r ≤ 8 ∧ a = 84 + 15 + r) ∨ (r = 1 ∧ a = 84 + 31) ∨ (r = 14 ∧ a = 84 + 29) ∨ (r = 15 ∧ a = 84 + 30)) (i : Nat) (v : Int) : rdM f Z (upr E r i v) M (en_wI K a i v) k := by
  obtain ⟨h1, h2, h3, h4, h5⟩ := h
  exact ⟨⟨by rw [wI_ne (by omega)]; exact h1.1, h1.2⟩, by rw [wI_ne (by omega)]; exact h2, h3, ⟨by rw [wI_ne (by omega)]; exact h4.1, by rw [wI_ne (by omega)]; exact h4.2.1, by rw [wI_ne (by omega)]; exact h4.2.2.1, by rw [wI_ne (by omega)]; exact h4.2.2.2⟩, isM_w h5 hr i v⟩
theorem rdM_w0 {f : Nat → Int} {Z : Nat} {E : Ev} {M K : Mm} {k : Tk} (h : rdM f Z E M K k) {s i : Nat} (hs : (s = 9 ∧ i = 0) ∨ (s = 10 ∧ i = 1) ∨ (s = 18 ∧ i = 2)) (v : Int) : rdM f Z (upr E 0 i v) M (en_wI K 84 s v) k := by
  obtain ⟨h1, h2, h3, h4, h5⟩ := h
  exact ⟨⟨by rw [wI_ne (by omega)]; exact h1.1, h1.2⟩, by rw [w84_n (by omega)]; exact h2, h3, ⟨by rw [w84_n (by omega)]; exact h4.1, by rw [w84_n (by omega)]; exact h4.2.1, by rw [w84_n (by omega)]; exact h4.2.2.1, by rw [w84_n (by omega)]; exact h4.2.2.2⟩, isM_w0 h5 (by omega) v⟩
def outM (f : Nat → Int) (Z : Nat) (M K : Mm) (R : Rs) (r : Option AV) : Prop := frM M K ∧ ((R.1 = none ∧ r = some (.inl 0) ∧ K.1 84 30 = ((R.2.1 : Nat) : Int)) ∨ ∃ X, R.1 = some X ∧ r = some (.inl 1) ∧ rdM f Z X K K R.2)
theorem outM_no {f : Nat → Int} {Z : Nat} {M K : Mm} {R : Rs} {k : Tk} (e : R = (none, k)) (h : frM M K) (h30 : K.1 84 30 = ((k.1 : Nat) : Int)) : outM f Z M K R (some (.inl 0)) := by
  rw [e]
  exact ⟨h, Or.inl ⟨rfl, rfl, h30⟩⟩
theorem outM_so {f : Nat → Int} {Z : Nat} {X : Ev} {M B K : Mm} {R : Rs} {k : Tk} (e : R = (some X, k)) (h : frM M K) (hX : rdM f Z X B K k) : outM f Z M K R (some (.inl 1)) := by
  rw [e]
  exact ⟨h, Or.inr ⟨X, rfl, rfl, hX⟩⟩
theorem outM_f {f : Nat → Int} {Z h kk : Nat} {as : List AV} {M : Mm} {R : Rs} (hc : en_Ct h 0 kk as M (fun r M' => outM f Z M M' R r)) (hR : R.1 = none) : en_Ct h 0 kk as M (fun r M' => r = some (.inl 0) ∧ outM f Z M M' R r) := by
  refine en_Ct_mono hc ?_
  intro r M' ho
  refine ⟨?_, ho⟩
  rcases ho.2 with ⟨-, z, -⟩ | ⟨X, z, -⟩
  · exact z
  · rw [hR] at z; cases z
theorem outM_t {f : Nat → Int} {Z h kk : Nat} {as : List AV} {M : Mm} {R : Rs} (hc : en_Ct h 0 kk as M (fun r M' => outM f Z M M' R r)) (hR : ¬ R.1 = none) : en_Ct h 0 kk as M (fun r M' => r = some (.inl 1) ∧ outM f Z M M' R r) := by
  refine en_Ct_mono hc ?_
  intro r M' ho
  refine ⟨?_, ho⟩
  rcases ho.2 with ⟨z, -⟩ | ⟨X, -, z, -⟩
  · exact absurd z hR
  · exact z
theorem okA_n : ∀ c : Nat, c < 6 → ∀ v : Int, okA ((c : Nat) : Int) v ↔ (en_sv.getD 2 []).getD c 0 ≤ v ∧ v ≤ (en_sv.getD 3 []).getD c 0 := by
  intro c hc v
  rcases (show c = 0 ∨ c = 1 ∨ c = 2 ∨ c = 3 ∨ c = 4 ∨ c = 5 by omega) with e | e | e | e | e | e <;> subst e
  · show okA 0 v ↔ (0 : Int) ≤ v ∧ v ≤ (25 : Int)
    unfold okA; omega
  · show okA 1 v ↔ (1 : Int) ≤ v ∧ v ≤ (5 : Int)
    unfold okA; omega
  · show okA 2 v ↔ (1 : Int) ≤ v ∧ v ≤ (600 : Int)
    unfold okA; omega
  · show okA 3 v ↔ (0 : Int) ≤ v ∧ v ≤ (50 : Int)
    unfold okA; omega
  · show okA 4 v ↔ (0 : Int) ≤ v ∧ v ≤ (50 : Int)
    unfold okA; omega
  · show okA 5 v ↔ (0 : Int) ≤ v ∧ v ≤ (50 : Int)
    unfold okA; omega
theorem okA_num {f : Nat → Int} {k : Tk} {c : Nat} (hc : c < 6) : (k.2.1 = 2 ∧ okA ((c : Nat) : Int) (vl f k)) ↔ numO f k ((en_sv.getD 2 []).getD c 0) ((en_sv.getD 3 []).getD c 0) := by
  unfold numO
  rw [okA_n c hc]
theorem D_asT (f : Nat → Int) (Z : Nat) (E : Ev) (B M : Mm) (k : Tk) (h : rdM f Z E B M k) (c : Nat) (hc : c < 6) (hok : (tok f Z k.2.2).2.1 = 2 ∧ okA ((c : Nat) : Int) (vl f (tok f Z k.2.2))) : en_Ct 5 0 180 [.inr (.inr (1, 6, 84)), .inl ((c : Nat) : Int)] M (fun r M' => r = some (.inl 1) ∧ rdM f Z (u_ask E ((c : Nat) : Int) (vl f (tok f Z k.2.2))) B M' (tok f Z (tok f Z k.2.2).2.2) ∧ frM M M') := by
  refine ct_180 rfl ?_
  refine aw_180_0 ?_
  refine ⟨3, 0, by first | decide | omega, by first | decide | omega, en_Ct_mono (D_look h) ?_⟩
  rintro _ K1 ⟨rfl, h1, hF1⟩
  refine ⟨4, 0, by first | decide | omega, by first | decide | omega, en_Ct_mono (D_ahT (c := c) h1 hc hok) ?_⟩
  rintro _ K2 ⟨rfl, h2, hF2⟩
  exact ⟨Or.inr rfl, rfl, h2, frM_tr (frM_w (frM_8 hF1) (by decide)) (frM_8 hF2)⟩
theorem D_asF (f : Nat → Int) (Z : Nat) (E : Ev) (B M : Mm) (k : Tk) (h : rdM f Z E B M k) (c : Nat) (hc : c < 6) (hok : ¬ ((tok f Z k.2.2).2.1 = 2 ∧ okA ((c : Nat) : Int) (vl f (tok f Z k.2.2)))) : en_Ct 5 0 180 [.inr (.inr (1, 6, 84)), .inl ((c : Nat) : Int)] M (fun r M' => r = some (.inl 0) ∧ frM M M' ∧ M'.1 84 30 = (((tok f Z k.2.2).1 : Nat) : Int)) := by
  refine ct_180 rfl ?_
  refine aw_180_0 ?_
  refine ⟨3, 0, by first | decide | omega, by first | decide | omega, en_Ct_mono (D_look h) ?_⟩
  rintro _ K1 ⟨rfl, h1, hF1⟩
  refine ⟨4, 0, by first | decide | omega, by first | decide | omega, en_Ct_mono (D_ahF (c := c) h1 hc hok) ?_⟩
  rintro _ K2 ⟨rfl, hF2, n2⟩
  exact ⟨Or.inl rfl, rfl, frM_tr (frM_8 hF1) (frM_H hF2), n2⟩
