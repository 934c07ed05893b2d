/-! the whole tape -/
def stm0 (f : Nat → Int) (Z : Nat) (E : Ev) (k : Tk) : Rs := stm f Z E (fun _ => 0) k
def rdA (f : Nat → Int) (Z : Nat) : Nat → Ev → Nat → Int → Option Ev × Nat × Int
  | 0, _, b, c => (none, b, c)
  | n + 1, E, b, c => match (stm0 f Z E (tok f Z b)).1 with
    | none => (none, (stm0 f Z E (tok f Z b)).2.1, c)
    | some X => if (stm0 f Z E (tok f Z b)).2.2.1 = 3 then rdA f Z n X (stm0 f Z E (tok f Z b)).2.2.2 (c + 1) else if (stm0 f Z E (tok f Z b)).2.2.1 = 0 then (some X, (stm0 f Z E (tok f Z b)).2.1, c + 1) else (none, (stm0 f Z E (tok f Z b)).2.1, c + 1)
theorem rdA_n {f : Nat → Int} {Z n : Nat} {E : Ev} {b : Nat} {c : Int} (h : (stm0 f Z E (tok f Z b)).1 = none) : rdA f Z (n + 1) E b c = (none, (stm0 f Z E (tok f Z b)).2.1, c) := by rw [rdA, h]
theorem rdA_s {f : Nat → Int} {Z n : Nat} {E X : Ev} {b : Nat} {c : Int} (h : (stm0 f Z E (tok f Z b)).1 = some X) : rdA f Z (n + 1) E b c = if (stm0 f Z E (tok f Z b)).2.2.1 = 3 then rdA f Z n X (stm0 f Z E (tok f Z b)).2.2.2 (c + 1) else if (stm0 f Z E (tok f Z b)).2.2.1 = 0 then (some X, (stm0 f Z E (tok f Z b)).2.1, c + 1) else (none, (stm0 f Z E (tok f Z b)).2.1, c + 1) := by rw [rdA, h]
/-- a statement's result: a token that is one, an evening that is one -/
theorem stm_ok {f : Nat → Int} {Z : Nat} {E : Ev} (hg : s_ok E) {k : Tk} (hk : tkO f Z k) : tkO f Z (stm0 f Z E k).2 ∧ ∀ X, (stm0 f Z E k).1 = some X → s_ok X ∧ E.1 0 1 ≤ X.1 0 1 := by
  have h := rr_stm (f := f) (f' := f) (Z := Z) (X := E) (E := E) (g := fun _ => 0) (g' := fun _ => 0) (fun _ _ => rfl) evs_rfl hg hk
  refine ⟨h.2.1, fun X hX => ?_⟩
  rcases h.2.2 with ⟨z, -⟩ | ⟨X', Y, z1, -, -, z4, z5⟩
  · have hX' : (stm f Z E (fun _ => 0) k).1 = some X := hX
    rw [z] at hX'; cases hX'
  · have hX' : (stm f Z E (fun _ => 0) k).1 = some X := hX
    rw [z1] at hX'
    injection hX' with e
    rw [← e]
    exact ⟨z4, z5⟩
