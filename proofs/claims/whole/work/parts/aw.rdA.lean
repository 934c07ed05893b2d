/-! the whole tape, of evenings that say the same -/
def rrA (E : Ev) (T T' : Option Ev × Nat × Int) : Prop := T.2 = T'.2 ∧ ((T.1 = none ∧ T'.1 = none) ∨ ∃ X Y, T.1 = some X ∧ T'.1 = some Y ∧ evs X Y ∧ s_ok X ∧ E.1 0 1 ≤ X.1 0 1)
theorem rrA_le {E F : Ev} {T T' : Option Ev × Nat × Int} (h : E.1 0 1 ≤ F.1 0 1) (hr : rrA F T T') : rrA E T T' := ⟨hr.1, by
  rcases hr.2 with z | ⟨X, Y, z1, z2, z3, z4, z5⟩
  · exact Or.inl z
  · exact Or.inr ⟨X, Y, z1, z2, z3, z4, Int.le_trans h z5⟩⟩
theorem rr_rdA {f f' : Nat → Int} {Z : Nat} (hf : ∀ i, i < Z → f i = f' i) : ∀ (n : Nat) (X E : Ev) (b : Nat) (c : Int), evs X E → s_ok X → b ≤ Z → rrA X (rdA f Z n X b c) (rdA f' Z n E b c)
  | 0, _, _, _, _, _, _, _ => ⟨rfl, Or.inl ⟨rfl, rfl⟩⟩
  | n + 1, X, E, b, c, h, hg, hb => by
    have hk := tok_ok (f := f) hb
    have hr := rr_stm (g := fun _ => 0) (g' := fun _ => 0) hf h hg hk
    have et := tok_c hf hb
    have e2 : (stm0 f Z X (tok f Z b)).2 = (stm0 f' Z E (tok f' Z b)).2 := by rw [← et]; exact hr.1
    rcases hr.2.2 with ⟨z1, z2⟩ | ⟨X', Y', z1, z2, z3, z4, z5⟩
    · rw [rdA_n z1, rdA_n (show (stm0 f' Z E (tok f' Z b)).1 = none by rw [← et]; exact z2), e2]
      exact ⟨rfl, Or.inl ⟨rfl, rfl⟩⟩
    · rw [rdA_s z1, rdA_s (show (stm0 f' Z E (tok f' Z b)).1 = some Y' by rw [← et]; exact z2), e2]
      by_cases q : (stm0 f' Z E (tok f' Z b)).2.2.1 = 3
      · rw [if_pos q, if_pos q]
        have hbz : (stm0 f' Z E (tok f' Z b)).2.2.2 ≤ Z := by rw [← e2]; exact hr.2.1.1.2
        exact rrA_le z5 (rr_rdA hf n X' Y' _ (c + 1) z3 z4 hbz)
      · rw [if_neg q, if_neg q]
        by_cases q2 : (stm0 f' Z E (tok f' Z b)).2.2.1 = 0
        · rw [if_pos q2, if_pos q2]
          exact ⟨rfl, Or.inr ⟨X', Y', rfl, rfl, z3, z4, z5⟩⟩
        · rw [if_neg q2, if_neg q2]
          exact ⟨rfl, Or.inl ⟨rfl, rfl⟩⟩
/-- two names cannot both be told -/
theorem mtc_at {f : Nat → Int} {s n : Nat} : ∀ m i, mtc f s n m i = true → ∀ j, i ≤ j → j < i + m → f (s + j) = (en_by.getD n []).getD j 0
  | 0, _, _, j, h1, h2 => by omega
  | m + 1, i, h, j, h1, h2 => by
    rw [mtc] at h
    by_cases z : f (s + i) = (en_by.getD n []).getD i 0
    · rw [if_pos z] at h
      by_cases e : j = i
      · rw [e]; exact z
      · exact mtc_at m (i + 1) h j (by omega) (by omega)
    · rw [if_neg z] at h; cases h
theorem nm_two' : ∀ a : Fin 9, ∀ b : Fin 9, a ≠ b → en_ln a.val = en_ln b.val → (en_by.getD a.val []).getD 0 0 = (en_by.getD b.val []).getD 0 0 → (en_by.getD a.val []).getD 1 0 = (en_by.getD b.val []).getD 1 0 → False := by decide +kernel
theorem nm_two {f : Nat → Int} {k : Tk} {a b : Nat} (ha : a < 9) (hb : b < 9) (hab : a ≠ b) (h : nm f k a = true) : nm f k b = false := by
  cases h2 : nm f k b with
  | false => rfl
  | true =>
    exfalso
    unfold nm at h h2
    by_cases z : k.2.1 = 1 ∧ k.1 + en_ln a = k.2.2
    · rw [if_pos z] at h
      by_cases z2 : k.2.1 = 1 ∧ k.1 + en_ln b = k.2.2
      · rw [if_pos z2] at h2
        have hl : ∀ q : Fin 9, 1 < en_ln q.val := by decide +kernel
        have la : 1 < en_ln a := hl ⟨a, ha⟩
        have lb : 1 < en_ln b := hl ⟨b, hb⟩
        have e1 := mtc_at _ _ h 0 (Nat.le_refl _) (by omega)
        have e2 := mtc_at _ _ h2 0 (Nat.le_refl _) (by omega)
        have e3 := mtc_at _ _ h 1 (Nat.zero_le _) (by omega)
        have e4 := mtc_at _ _ h2 1 (Nat.zero_le _) (by omega)
        exact nm_two' ⟨a, ha⟩ ⟨b, hb⟩ (fun q => hab (congrArg Fin.val q)) (show en_ln a = en_ln b by omega) (e1.symm.trans e2) (e3.symm.trans e4)
      · rw [if_neg z2] at h2; cases h2
    · rw [if_neg z] at h; cases h
