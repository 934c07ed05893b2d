/-! what a round says: words, people, sheets (rows of an evening: 0 columns, words, people, seed; 1 what is asked; 2 kinds; 3 letters; 4 columns of words; 5 seconds; 6 extras; 7 knowers; 8 used; 10 to 13 sheets; 14 sizes; 15 scores) -/
abbrev Ev : Type := Nat → Nat → Int
/-- how many bits -/
def s_pc (n : Nat) : Nat := ((List.range 24).filter (fun k => n.testBit k)).length
def s_kn (E : Ev) (p w : Nat) : Bool := (E 7 w).toNat.testBit p
def s_bar (E : Ev) (w : Nat) : Bool := decide (E 1 7 = 1) && !decide (E 8 w = 0)
def s_can (E : Ev) (p w : Nat) : Bool := decide (E 3 w = E 1 0) && (decide (E 4 w < E 0 0) && (s_kn E p w && !s_bar E w))
def s_half (x : Int) : Int := if x < 2 then 1 else x / 2
def s_cost (E : Ev) (w : Nat) : Int := if E 2 w = 1 then s_half (E 5 w) else if E 2 w = 3 then s_half (E 5 w) else if E 2 w = 2 then E 5 w + E 6 w else if E 2 w = 5 then E 5 w + E 6 w + 5 else E 5 w
def s_vote (E : Ev) (w : Nat) : Bool := decide (E 1 6 = 0) || (!decide (E 2 w = 4) || decide (E 0 2 ≤ 2 * (s_pc (E 7 w).toNat : Int)))
/-- an evening's rows in the class's block at e -/
abbrev vE (M : Mm) (e : Nat) : Ev := fun r => M.1 (e + r)
/-- what holds of a word -/
def s_word (E : Ev) (w : Nat) : Prop := (0 ≤ E 2 w ∧ E 2 w ≤ 5) ∧ (0 ≤ E 3 w ∧ E 3 w ≤ 25) ∧ (0 ≤ E 4 w ∧ E 4 w < E 0 0) ∧ (1 ≤ E 5 w ∧ E 5 w ≤ 60) ∧ (0 ≤ E 6 w ∧ E 6 w ≤ 9) ∧ (0 ≤ E 7 w ∧ E 7 w < 16) ∧ (0 ≤ E 8 w ∧ E 8 w ≤ 1)
/-- what holds of an evening's numbers -/
def s_num (E : Ev) : Prop := (1 ≤ E 0 0 ∧ E 0 0 ≤ 5) ∧ (0 ≤ E 0 1 ∧ E 0 1 ≤ 24) ∧ (0 ≤ E 0 2 ∧ E 0 2 ≤ 4) ∧ (0 ≤ E 1 0 ∧ E 1 0 ≤ 25) ∧ (1 ≤ E 1 1 ∧ E 1 1 ≤ 5) ∧ (1 ≤ E 1 2 ∧ E 1 2 ≤ 600) ∧ (0 ≤ E 1 3 ∧ E 1 3 ≤ 50) ∧ (0 ≤ E 1 4 ∧ E 1 4 ≤ 50) ∧ (0 ≤ E 1 5 ∧ E 1 5 ≤ 50) ∧ (0 ≤ E 1 6 ∧ E 1 6 ≤ 1) ∧ (0 ≤ E 1 7 ∧ E 1 7 ≤ 1)
theorem nu_kn {x : Int} {p : Nat} (h0 : 0 ≤ x) (h1 : x < 16) (hp : p < 31) : en_and (en_shr x (p : Int)) 1 = if x.toNat.testBit p then 1 else 0 := by
  have h := nu_bit (a := x.toNat) (w := p) (by omega) hp
  rw [show ((x.toNat : Nat) : Int) = x by omega] at h
  exact h
theorem wo_E {M : Mm} {e w : Nat} (h : s_word (vE M e) w) : (0 ≤ M.1 (e + 2) w ∧ M.1 (e + 2) w ≤ 5) ∧ (0 ≤ M.1 (e + 3) w ∧ M.1 (e + 3) w ≤ 25) ∧ (0 ≤ M.1 (e + 4) w ∧ M.1 (e + 4) w < M.1 e 0) ∧ (1 ≤ M.1 (e + 5) w ∧ M.1 (e + 5) w ≤ 60) ∧ (0 ≤ M.1 (e + 6) w ∧ M.1 (e + 6) w ≤ 9) ∧ (0 ≤ M.1 (e + 7) w ∧ M.1 (e + 7) w < 16) ∧ (0 ≤ M.1 (e + 8) w ∧ M.1 (e + 8) w ≤ 1) := h
theorem nm_E {M : Mm} {e : Nat} (h : s_num (vE M e)) : (1 ≤ M.1 e 0 ∧ M.1 e 0 ≤ 5) ∧ (0 ≤ M.1 e 1 ∧ M.1 e 1 ≤ 24) ∧ (0 ≤ M.1 e 2 ∧ M.1 e 2 ≤ 4) ∧ (0 ≤ M.1 (e + 1) 0 ∧ M.1 (e + 1) 0 ≤ 25) ∧ (1 ≤ M.1 (e + 1) 1 ∧ M.1 (e + 1) 1 ≤ 5) ∧ (1 ≤ M.1 (e + 1) 2 ∧ M.1 (e + 1) 2 ≤ 600) ∧ (0 ≤ M.1 (e + 1) 3 ∧ M.1 (e + 1) 3 ≤ 50) ∧ (0 ≤ M.1 (e + 1) 4 ∧ M.1 (e + 1) 4 ≤ 50) ∧ (0 ≤ M.1 (e + 1) 5 ∧ M.1 (e + 1) 5 ≤ 50) ∧ (0 ≤ M.1 (e + 1) 6 ∧ M.1 (e + 1) 6 ≤ 1) ∧ (0 ≤ M.1 (e + 1) 7 ∧ M.1 (e + 1) 7 ≤ 1) := h
