/-! the whole tape -/
def stm0 (f : Nat → Int) (Z : Nat) (E : Ev) (k : Tk) : Rs := stm f Z E (fun _ => 0) k
def rdA (f : Nat → Int) (Z : Nat) : Nat → Ev → Nat → Int → Option Ev × Nat × Int
  | 0, _, b, c => (none, b, c)
  | n + 1, E, b, c => match (stm0 f Z E (tok f Z b)).1 with
    | none => (none, (stm0 f Z E (tok f Z b)).2.1, c)
    | some X => if (stm0 f Z E (tok f Z b)).2.2.1 = 3 then rdA f Z n X (stm0 f Z E (tok f Z b)).2.2.2 (c + 1) else if (stm0 f Z E (tok f Z b)).2.2.1 = 0 then (some X, (stm0 f Z E (tok f Z b)).2.1, c + 1) else (none, (stm0 f Z E (tok f Z b)).2.1, c + 1)
theorem rdA_n {f : Nat → Int} {Z n : Nat} {E : Ev} {b : Nat} {c : Int} (h : (stm0 f Z E (tok f Z b)).1 = none) : rdA f Z (n + 1) E b c = (none, (stm0 f Z E (tok f Z b)).2.1, c) := by rw [rdA, h]
theorem rdA_s {f : Nat → Int} {Z n : Nat} {E X : Ev} {b : Nat} {c : Int} (h : (stm0 f Z E (tok f Z b)).1 = some X) : rdA f Z (n + 1) E b c = if (stm0 f Z E (tok f Z b)).2.2.1 = 3 then rdA f Z n X (stm0 f Z E (tok f Z b)).2.2.2 (c + 1) else if (stm0 f Z E (tok f Z b)).2.2.1 = 0 then (some X, (stm0 f Z E (tok f Z b)).2.1, c + 1) else (none, (stm0 f Z E (tok f Z b)).2.1, c + 1) := by rw [rdA, h]
/-- a statement's result: a token that is one, an evening that is one -/
theorem stm_ok {f : Nat → Int} {Z : Nat} {E : Ev} (hg : s_ok E) {k : Tk} (hk : tkO f Z k) : tkO f Z (stm0 f Z E k).2 ∧ ∀ X, (stm0 f Z E k).1 = some X → s_ok X ∧ E.1 0 1 ≤ X.1 0 1 := by
  have h := rr_stm (f := f) (f' := f) (Z := Z) (X := E) (E := E) (g := fun _ => 0) (g' := fun _ => 0) (fun _ _ => rfl) evs_rfl hg hk
  refine ⟨h.2.1, fun X hX => ?_⟩
  rcases h.2.2 with ⟨z, -⟩ | ⟨X', Y, z1, -, -, z4, z5⟩
  · have hX' : (stm f Z E (fun _ => 0) k).1 = some X := hX
    rw [z] at hX'; cases hX'
  · have hX' : (stm f Z E (fun _ => 0) k).1 = some X := hX
    rw [z1] at hX'
    injection hX' with e
    rw [← e]
    exact ⟨z4, z5⟩
/-! places grow -/
def geP (q Z : Nat) (k : Tk) : Prop := q ≤ k.1 ∧ k.1 ≤ k.2.2 ∧ k.2.2 ≤ Z
theorem ge_tok {f : Nat → Int} {q Z : Nat} {k : Tk} (h : geP q Z k) : geP q Z (tok f Z k.2.2) := by
  have := tok_b (f := f) h.2.2
  have h1 := h.1
  have h2 := h.2.1
  exact ⟨by omega, this.2.1, this.2.2.1⟩
theorem ge_rn {f : Nat → Int} {q Z : Nat} {k : Tk} {lo hi : Int} {c : Int → Tk → Rs} (h : geP q Z k) (hc : ∀ v k', geP q Z k' → geP q Z (c v k').2) : geP q Z (rn f Z k lo hi c).2 := by
  unfold rn
  split
  · exact hc _ _ (ge_tok h)
  · exact h
theorem ge_shR {f : Nat → Int} {q Z : Nat} {E : Ev} {p : Nat} : ∀ (m n : Nat) (g : Nat → Int) (k : Tk), geP q Z k → geP q Z (shR f Z E p m n g k).2
  | 0, n, g, k, h => by
    rw [shR]
    split
    · exact h
    · exact h
  | m + 1, n, g, k, h => by
    rw [shR]
    split
    · split
      · exact ge_shR m (n + 1) _ _ (ge_tok h)
      · exact h
    · exact h
theorem nm_1 {f : Nat → Int} {k : Tk} {n : Nat} (h : nm f k n = true) : k.2.1 = 1 := by
  unfold nm at h
  by_cases z : k.2.1 = 1 ∧ k.1 + en_ln n = k.2.2
  · exact z.1
  · rw [if_neg z] at h; cases h
theorem stm_ge {f : Nat → Int} {Z : Nat} {E : Ev} {k : Tk} (hk : tkO f Z k) (hs : (stm0 f Z E k).1 ≠ none) : k.1 < k.2.2 ∧ geP k.2.2 Z (stm0 f Z E k).2 := by
  have hb := tok_b (f := f) hk.1.2
  have t1 : geP k.2.2 Z (tok f Z k.2.2) := ⟨hb.1, hb.2.1, hb.2.2.1⟩
  have hlt : ∀ n, nm f k n = true → k.1 < k.2.2 := fun n h => hk.2.2.2 (by rw [nm_1 h]; decide)
  unfold stm0 stm at hs ⊢
  by_cases z0 : nm f k 0 = true
  · rw [if_pos z0] at hs ⊢
    refine ⟨hlt 0 z0, ?_⟩
    by_cases q : E.1 0 1 = 0
    · rw [if_pos q]; exact ge_rn t1 (fun v k' h' => h')
    · rw [if_neg q] at hs; exact absurd rfl hs
  rw [if_neg z0] at hs ⊢
  by_cases z1 : nm f k 1 = true
  · rw [if_pos z1] at hs ⊢
    refine ⟨hlt 1 z1, ?_⟩
    by_cases q : E.1 0 1 < 24
    · rw [if_pos q]; exact ge_rn t1 (fun _ _ h' => ge_rn h' (fun _ _ h' => ge_rn h' (fun _ _ h' => ge_rn h' (fun _ _ h' => ge_rn h' (fun _ _ h' => h')))))
    · rw [if_neg q] at hs; exact absurd rfl hs
  rw [if_neg z1] at hs ⊢
  by_cases z2 : nm f k 2 = true
  · rw [if_pos z2] at hs ⊢
    refine ⟨hlt 2 z2, ?_⟩
    by_cases q : E.1 0 2 < 4
    · rw [if_pos q]; exact t1
    · rw [if_neg q] at hs; exact absurd rfl hs
  rw [if_neg z2] at hs ⊢
  by_cases z3 : nm f k 3 = true
  · rw [if_pos z3]; exact ⟨hlt 3 z3, ge_rn t1 (fun _ _ h' => ge_rn h' (fun _ _ h' => h'))⟩
  rw [if_neg z3] at hs ⊢
  by_cases z4 : nm f k 4 = true
  · rw [if_pos z4]; exact ⟨hlt 4 z4, ge_rn t1 (fun _ _ h' => h')⟩
  rw [if_neg z4] at hs ⊢
  by_cases z5 : nm f k 5 = true
  · rw [if_pos z5]; exact ⟨hlt 5 z5, ge_rn t1 (fun _ _ h' => h')⟩
  rw [if_neg z5] at hs ⊢
  by_cases z6 : nm f k 6 = true
  · rw [if_pos z6]; exact ⟨hlt 6 z6, ge_rn t1 (fun _ _ h' => h')⟩
  rw [if_neg z6] at hs ⊢
  by_cases z7 : nm f k 7 = true
  · rw [if_pos z7]; exact ⟨hlt 7 z7, ge_rn t1 (fun _ _ h' => ge_rn h' (fun _ _ h' => ge_rn h' (fun _ _ h' => h')))⟩
  rw [if_neg z7] at hs ⊢
  by_cases z8 : nm f k 8 = true
  · rw [if_pos z8]; exact ⟨hlt 8 z8, ge_rn t1 (fun _ _ h' => ge_shR 5 0 _ _ h')⟩
  rw [if_neg z8] at hs
  exact absurd rfl hs
