/-! what a statement says -/
abbrev Tk := Nat × Int × Nat
def tkO (f : Nat → Int) (Z : Nat) (k : Tk) : Prop := (k.1 ≤ k.2.2 ∧ k.2.2 ≤ Z) ∧ (0 ≤ k.2.1 ∧ k.2.1 ≤ 4) ∧ dgt f k ∧ (k.2.1 ≠ 0 → k.1 < k.2.2)
theorem tok_ok {f : Nat → Int} {Z b : Nat} (h : b ≤ Z) : tkO f Z (tok f Z b) := by
  have := tok_b (f := f) h
  exact ⟨⟨this.2.1, this.2.2.1⟩, this.2.2.2.1, tok_d, this.2.2.2.2⟩
abbrev Rs := Option Ev × Tk
def rn (f : Nat → Int) (Z : Nat) (k : Tk) (lo hi : Int) (c : Int → Tk → Rs) : Rs := if k.2.1 = 2 ∧ lo ≤ vl f k ∧ vl f k ≤ hi then c (vl f k) (tok f Z k.2.2) else (none, k)
def upf (g : Nat → Int) (n : Nat) (v : Int) : Nat → Int := fun i => if i = n then v else g i
def shR (f : Nat → Int) (Z : Nat) (E : Ev) (p : Nat) : Nat → Nat → (Nat → Int) → Tk → Rs
  | 0, n, g, k => if k.2.1 = 2 then (none, k) else (some (u_sh E g n p), k)
  | m + 1, n, g, k => if k.2.1 = 2 then (if s_mf E p (upf g n (vl f k)) n then shR f Z E p m (n + 1) (upf g n (vl f k)) (tok f Z k.2.2) else (none, k)) else (some (u_sh E g n p), k)
def sCol (f : Nat → Int) (Z : Nat) (E : Ev) (k : Tk) : Rs := rn f Z k 1 5 (fun v k => (some (u_columns E v), k))
def sWord (f : Nat → Int) (Z : Nat) (E : Ev) (k : Tk) : Rs := rn f Z k 0 5 (fun a k => rn f Z k 0 25 (fun b k => rn f Z k 0 (E.1 0 0 - 1) (fun c k => rn f Z k 1 60 (fun d k => rn f Z k 0 9 (fun e k => (some (u_word E a b c d e), k))))))
def sKno (f : Nat → Int) (Z : Nat) (E : Ev) (k : Tk) : Rs := rn f Z k 0 (E.1 0 2 - 1) (fun a k => rn f Z k 0 (E.1 0 1 - 1) (fun b k => (some (u_knows E a b 1), k)))
def sAsk (f : Nat → Int) (Z : Nat) (E : Ev) (w : Nat) (k : Tk) : Rs := rn f Z k ((en_sv.getD 2 []).getD w 0) ((en_sv.getD 3 []).getD w 0) (fun v k => (some (u_ask E (w : Int) v), k))
def sPts (f : Nat → Int) (Z : Nat) (E : Ev) (k : Tk) : Rs := rn f Z k 0 50 (fun a k => rn f Z k 0 50 (fun b k => rn f Z k 0 50 (fun c k => (some (u_ask (u_ask (u_ask E 3 a) 4 b) 5 c), k))))
def sShe (f : Nat → Int) (Z : Nat) (E : Ev) (g : Nat → Int) (k : Tk) : Rs := rn f Z k 0 (E.1 0 2 - 1) (fun a k => shR f Z E a.toNat 5 0 g k)
def stm (f : Nat → Int) (Z : Nat) (E : Ev) (g : Nat → Int) (k : Tk) : Rs :=
  if nm f k 0 = true then (if E.1 0 1 = 0 then sCol f Z E (tok f Z k.2.2) else (none, k))
  else if nm f k 1 = true then (if E.1 0 1 < 24 then sWord f Z E (tok f Z k.2.2) else (none, k))
  else if nm f k 2 = true then (if E.1 0 2 < 4 then (some (u_person E), tok f Z k.2.2) else (none, k))
  else if nm f k 3 = true then sKno f Z E (tok f Z k.2.2)
  else if nm f k 4 = true then sAsk f Z E 0 (tok f Z k.2.2)
  else if nm f k 5 = true then sAsk f Z E 1 (tok f Z k.2.2)
  else if nm f k 6 = true then sAsk f Z E 2 (tok f Z k.2.2)
  else if nm f k 7 = true then sPts f Z E (tok f Z k.2.2)
  else if nm f k 8 = true then sShe f Z E g (tok f Z k.2.2)
  else (none, k)
/-- the two results say the same -/
def rr (f : Nat → Int) (Z : Nat) (E : Ev) (R R' : Rs) : Prop := R.2 = R'.2 ∧ tkO f Z R.2 ∧ ((R.1 = none ∧ R'.1 = none) ∨ ∃ X Y, R.1 = some X ∧ R'.1 = some Y ∧ evs X Y ∧ s_ok X ∧ E.1 0 1 ≤ X.1 0 1)
section RR
variable {f f' : Nat → Int} {Z : Nat} {E : Ev}
theorem rr_no {k : Tk} (h : tkO f Z k) : rr f Z E (none, k) (none, k) := ⟨rfl, h, Or.inl ⟨rfl, rfl⟩⟩
theorem rr_so {k : Tk} {X Y : Ev} (h : tkO f Z k) (h1 : evs X Y) (h2 : s_ok X) (h3 : E.1 0 1 ≤ X.1 0 1) : rr f Z E (some X, k) (some Y, k) := ⟨rfl, h, Or.inr ⟨X, Y, rfl, rfl, h1, h2, h3⟩⟩
theorem rr_rn (hf : ∀ i, i < Z → f i = f' i) {k : Tk} (hk : tkO f Z k) {lo hi : Int} {c c' : Int → Tk → Rs} (hc : lo ≤ vl f k → vl f k ≤ hi → k.2.1 = 2 → rr f Z E (c (vl f k) (tok f Z k.2.2)) (c' (vl f k) (tok f Z k.2.2))) : rr f Z E (rn f Z k lo hi c) (rn f' Z k lo hi c') := by
  unfold rn
  rw [← vl_c hf hk.1, ← tok_c hf hk.1.2]
  by_cases z : k.2.1 = 2 ∧ lo ≤ vl f k ∧ vl f k ≤ hi
  · rw [if_pos z, if_pos z]; exact hc z.2.1 z.2.2 z.1
  · rw [if_neg z, if_neg z]; exact rr_no hk
end RR
