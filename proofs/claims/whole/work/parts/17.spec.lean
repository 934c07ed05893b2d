/-! what a round says: words, people, sheets (rows of an evening: 0 columns, words, people, seed; 1 what is asked; 2 kinds; 3 letters; 4 columns of words; 5 seconds; 6 extras; 7 knowers; 8 used; 14 sizes; 15 scores; beside them the sheets) -/
abbrev Ev : Type := (Nat → Nat → Int) × (Nat → Nat → Int)
/-- how many bits -/
def s_pc (n : Nat) : Nat := ((List.range 24).filter (fun k => n.testBit k)).length
def s_kn (E : Ev) (p w : Nat) : Bool := (E.1 7 w).toNat.testBit p
def s_bar (E : Ev) (w : Nat) : Bool := decide (E.1 1 7 = 1) && !decide (E.1 8 w = 0)
def s_can (E : Ev) (p w : Nat) : Bool := decide (E.1 3 w = E.1 1 0) && (decide (E.1 4 w < E.1 0 0) && (s_kn E p w && !s_bar E w))
def s_half (x : Int) : Int := if x < 2 then 1 else x / 2
def s_cost (E : Ev) (w : Nat) : Int := if E.1 2 w = 1 then s_half (E.1 5 w) else if E.1 2 w = 3 then s_half (E.1 5 w) else if E.1 2 w = 2 then E.1 5 w + E.1 6 w else if E.1 2 w = 5 then E.1 5 w + E.1 6 w + 5 else E.1 5 w
def s_vote (E : Ev) (w : Nat) : Bool := decide (E.1 1 6 = 0) || (!decide (E.1 2 w = 4) || decide (E.1 0 2 ≤ 2 * ((s_pc (E.1 7 w).toNat : Nat) : Int)))
/-- an evening's rows in the class's block at e, and in the reference's at b -/
def vE (M : Mm) (e : Nat) : Ev := (fun r => M.1 (e + r), fun p => M.1 (e + 9 + 1 + 1 * p))
def vM (M : Mm) (b : Nat) : Ev := (fun r => match r with
  | 0 => fun i => (match i with | 0 => M.1 b 9 | 1 => M.1 b 10 | 2 => M.1 b 18 | _ => M.1 b 23)
  | 1 => M.1 (b + 31)
  | 2 => M.1 (b + 17)
  | 3 => M.1 (b + 18)
  | 4 => M.1 (b + 19)
  | 5 => M.1 (b + 20)
  | 6 => M.1 (b + 21)
  | 7 => M.1 (b + 22)
  | 8 => M.1 (b + 23)
  | 14 => M.1 (b + 29)
  | 15 => M.1 (b + 30)
  | _ => fun _ => 0, fun p => M.1 (b + 24 + 1 + 1 * p))
/-- what holds of a word -/
def s_word (E : Ev) (w : Nat) : Prop := (0 ≤ E.1 2 w ∧ E.1 2 w ≤ 5) ∧ (0 ≤ E.1 3 w ∧ E.1 3 w ≤ 25) ∧ (0 ≤ E.1 4 w ∧ E.1 4 w < E.1 0 0) ∧ (1 ≤ E.1 5 w ∧ E.1 5 w ≤ 60) ∧ (0 ≤ E.1 6 w ∧ E.1 6 w ≤ 9) ∧ (0 ≤ E.1 7 w ∧ E.1 7 w < 16) ∧ (0 ≤ E.1 8 w ∧ E.1 8 w ≤ 1)
/-- what holds of an evening's numbers -/
def s_num (E : Ev) : Prop := (1 ≤ E.1 0 0 ∧ E.1 0 0 ≤ 5) ∧ (0 ≤ E.1 0 1 ∧ E.1 0 1 ≤ 24) ∧ (0 ≤ E.1 0 2 ∧ E.1 0 2 ≤ 4) ∧ (0 ≤ E.1 1 0 ∧ E.1 1 0 ≤ 25) ∧ (1 ≤ E.1 1 1 ∧ E.1 1 1 ≤ 5) ∧ (1 ≤ E.1 1 2 ∧ E.1 1 2 ≤ 600) ∧ (0 ≤ E.1 1 3 ∧ E.1 1 3 ≤ 50) ∧ (0 ≤ E.1 1 4 ∧ E.1 1 4 ≤ 50) ∧ (0 ≤ E.1 1 5 ∧ E.1 1 5 ≤ 50) ∧ (0 ≤ E.1 1 6 ∧ E.1 1 6 ≤ 1) ∧ (0 ≤ E.1 1 7 ∧ E.1 1 7 ≤ 1)
/-- of its words -/
def s_wok (E : Ev) : Prop := ∀ w : Nat, (w : Int) < E.1 0 1 → s_word E w
/-- of a person's sheet -/
def s_sh (E : Ev) (p : Nat) : Prop := (0 ≤ E.1 14 p ∧ E.1 14 p ≤ 5) ∧ ∀ i : Nat, (i : Int) < E.1 14 p → 0 ≤ E.2 p i ∧ E.2 p i < E.1 0 1
theorem wo_E {M : Mm} {e w : Nat} (h : s_word (vE M e) w) : (0 ≤ M.1 (e + 2) w ∧ M.1 (e + 2) w ≤ 5) ∧ (0 ≤ M.1 (e + 3) w ∧ M.1 (e + 3) w ≤ 25) ∧ (0 ≤ M.1 (e + 4) w ∧ M.1 (e + 4) w < M.1 e 0) ∧ (1 ≤ M.1 (e + 5) w ∧ M.1 (e + 5) w ≤ 60) ∧ (0 ≤ M.1 (e + 6) w ∧ M.1 (e + 6) w ≤ 9) ∧ (0 ≤ M.1 (e + 7) w ∧ M.1 (e + 7) w < 16) ∧ (0 ≤ M.1 (e + 8) w ∧ M.1 (e + 8) w ≤ 1) := h
theorem nm_E {M : Mm} {e : Nat} (h : s_num (vE M e)) : (1 ≤ M.1 e 0 ∧ M.1 e 0 ≤ 5) ∧ (0 ≤ M.1 e 1 ∧ M.1 e 1 ≤ 24) ∧ (0 ≤ M.1 e 2 ∧ M.1 e 2 ≤ 4) ∧ (0 ≤ M.1 (e + 1) 0 ∧ M.1 (e + 1) 0 ≤ 25) ∧ (1 ≤ M.1 (e + 1) 1 ∧ M.1 (e + 1) 1 ≤ 5) ∧ (1 ≤ M.1 (e + 1) 2 ∧ M.1 (e + 1) 2 ≤ 600) ∧ (0 ≤ M.1 (e + 1) 3 ∧ M.1 (e + 1) 3 ≤ 50) ∧ (0 ≤ M.1 (e + 1) 4 ∧ M.1 (e + 1) 4 ≤ 50) ∧ (0 ≤ M.1 (e + 1) 5 ∧ M.1 (e + 1) 5 ≤ 50) ∧ (0 ≤ M.1 (e + 1) 6 ∧ M.1 (e + 1) 6 ≤ 1) ∧ (0 ≤ M.1 (e + 1) 7 ∧ M.1 (e + 1) 7 ≤ 1) := h
theorem wk_E {M : Mm} {e : Nat} (h : s_wok (vE M e)) : ∀ w : Nat, (w : Int) < M.1 e 1 → s_word (vE M e) w := h
theorem sh_E {M : Mm} {e p : Nat} (h : s_sh (vE M e) p) : (0 ≤ M.1 (e + 14) p ∧ M.1 (e + 14) p ≤ 5) ∧ ∀ i : Nat, (i : Int) < M.1 (e + 14) p → 0 ≤ M.1 (e + 9 + 1 + 1 * p) i ∧ M.1 (e + 9 + 1 + 1 * p) i < M.1 e 1 := h
theorem wo_M {M : Mm} {e w : Nat} (h : s_word (vM M e) w) : (0 ≤ M.1 (e + 17) w ∧ M.1 (e + 17) w ≤ 5) ∧ (0 ≤ M.1 (e + 18) w ∧ M.1 (e + 18) w ≤ 25) ∧ (0 ≤ M.1 (e + 19) w ∧ M.1 (e + 19) w < M.1 e 9) ∧ (1 ≤ M.1 (e + 20) w ∧ M.1 (e + 20) w ≤ 60) ∧ (0 ≤ M.1 (e + 21) w ∧ M.1 (e + 21) w ≤ 9) ∧ (0 ≤ M.1 (e + 22) w ∧ M.1 (e + 22) w < 16) ∧ (0 ≤ M.1 (e + 23) w ∧ M.1 (e + 23) w ≤ 1) := h
theorem nm_M {M : Mm} {e : Nat} (h : s_num (vM M e)) : (1 ≤ M.1 e 9 ∧ M.1 e 9 ≤ 5) ∧ (0 ≤ M.1 e 10 ∧ M.1 e 10 ≤ 24) ∧ (0 ≤ M.1 e 18 ∧ M.1 e 18 ≤ 4) ∧ (0 ≤ M.1 (e + 31) 0 ∧ M.1 (e + 31) 0 ≤ 25) ∧ (1 ≤ M.1 (e + 31) 1 ∧ M.1 (e + 31) 1 ≤ 5) ∧ (1 ≤ M.1 (e + 31) 2 ∧ M.1 (e + 31) 2 ≤ 600) ∧ (0 ≤ M.1 (e + 31) 3 ∧ M.1 (e + 31) 3 ≤ 50) ∧ (0 ≤ M.1 (e + 31) 4 ∧ M.1 (e + 31) 4 ≤ 50) ∧ (0 ≤ M.1 (e + 31) 5 ∧ M.1 (e + 31) 5 ≤ 50) ∧ (0 ≤ M.1 (e + 31) 6 ∧ M.1 (e + 31) 6 ≤ 1) ∧ (0 ≤ M.1 (e + 31) 7 ∧ M.1 (e + 31) 7 ≤ 1) := h
theorem wk_M {M : Mm} {e : Nat} (h : s_wok (vM M e)) : ∀ w : Nat, (w : Int) < M.1 e 10 → s_word (vM M e) w := h
theorem sh_M {M : Mm} {e p : Nat} (h : s_sh (vM M e) p) : (0 ≤ M.1 (e + 29) p ∧ M.1 (e + 29) p ≤ 5) ∧ ∀ i : Nat, (i : Int) < M.1 (e + 29) p → 0 ≤ M.1 (e + 24 + 1 + 1 * p) i ∧ M.1 (e + 24 + 1 + 1 * p) i < M.1 e 10 := h
theorem nu_kn {x : Int} {p : Nat} (h0 : 0 ≤ x) (h1 : x < 16) (hp : p < 31) : en_and (en_shr x (p : Int)) 1 = if x.toNat.testBit p then 1 else 0 := by
  have h := nu_bit (a := x.toNat) (w := p) (by omega) hp
  rw [show ((x.toNat : Nat) : Int) = x by omega] at h
  exact h
/-- a stretch of a row of words -/
def shl (f : Nat → Int) : Nat → Nat → List Nat
  | _, 0 => []
  | i, n + 1 => (f i).toNat :: shl f (i + 1) n
theorem shl_get (f : Nat → Int) : ∀ (n i j : Nat), j < n → (shl f i n)[j]? = some (f (i + j)).toNat
  | 0, _, _, h => absurd h (Nat.not_lt_zero _)
  | n + 1, i, 0, _ => rfl
  | n + 1, i, j + 1, h => by
    show (shl f (i + 1) n)[j]? = _
    rw [shl_get f n (i + 1) j (by omega), show i + 1 + j = i + (j + 1) by omega]
theorem shl_len (f : Nat → Int) : ∀ (n i : Nat), (shl f i n).length = n
  | 0, _ => rfl
  | n + 1, i => by
    show (shl f (i + 1) n).length + 1 = n + 1
    rw [shl_len f n (i + 1)]
theorem shl_congr {f g : Nat → Int} : ∀ (n i : Nat), (∀ j, i ≤ j → j < i + n → f j = g j) → shl f i n = shl g i n
  | 0, _, _ => rfl
  | n + 1, i, h => by
    show _ :: _ = _ :: _
    rw [h i (Nat.le_refl _) (by omega), shl_congr n (i + 1) (fun j h1 h2 => h j (by omega) (by omega))]
/-- words written by a second -/
def s_wr (can : Nat → Bool) (cost : Nat → Int) (sec : Int) : List Nat → Int → Nat → Nat
  | [], _, b => b
  | w :: r, t, b => if can w = true then s_wr can cost sec r (t + cost w) (if t + cost w ≤ sec then b ||| 2 ^ w else b) else s_wr can cost sec r t b
/-- what the whole sheet takes -/
def s_tot (can : Nat → Bool) (cost : Nat → Int) : List Nat → Int → Int
  | [], t => t
  | w :: r, t => if can w = true then s_tot can cost r (t + cost w) else s_tot can cost r t
/-- the second by which there are so many; a number for never -/
def s_rd (can : Nat → Bool) (cost : Nat → Int) (need never : Int) : List Nat → Int → Int → Int
  | [], _, _ => never
  | w :: r, t, n => if can w = true then (if n + 1 = need then t + cost w else s_rd can cost need never r (t + cost w) (n + 1)) else s_rd can cost need never r t n
theorem s_cost_b {E : Ev} {w : Nat} (h : s_word E w) : 1 ≤ s_cost E w ∧ s_cost E w ≤ 74 := by
  obtain ⟨k1, k2, k3, k4, k5, k6, k7⟩ := h
  unfold s_cost s_half
  split <;> (try split) <;> (try split) <;> (try split) <;> (try split) <;> omega
/-- a person's words, as told -/
def s_shl (E : Ev) (p : Nat) : List Nat := shl (E.2 p) 0 (E.1 14 p).toNat
theorem s_kn_E {M : Mm} {e p w : Nat} : s_kn (vE M e) p w = (M.1 (e + 7) w).toNat.testBit p := rfl
theorem s_bar_E {M : Mm} {e w : Nat} : s_bar (vE M e) w = (decide (M.1 (e + 1) 7 = 1) && !decide (M.1 (e + 8) w = 0)) := rfl
theorem s_can_E {M : Mm} {e p w : Nat} : s_can (vE M e) p w = (decide (M.1 (e + 3) w = M.1 (e + 1) 0) && (decide (M.1 (e + 4) w < M.1 e 0) && (s_kn (vE M e) p w && !s_bar (vE M e) w))) := rfl
theorem s_cost_E {M : Mm} {e w : Nat} : s_cost (vE M e) w = if M.1 (e + 2) w = 1 then s_half (M.1 (e + 5) w) else if M.1 (e + 2) w = 3 then s_half (M.1 (e + 5) w) else if M.1 (e + 2) w = 2 then M.1 (e + 5) w + M.1 (e + 6) w else if M.1 (e + 2) w = 5 then M.1 (e + 5) w + M.1 (e + 6) w + 5 else M.1 (e + 5) w := rfl
theorem s_vote_E {M : Mm} {e w : Nat} : s_vote (vE M e) w = (decide (M.1 (e + 1) 6 = 0) || (!decide (M.1 (e + 2) w = 4) || decide (M.1 e 2 ≤ 2 * ((s_pc (M.1 (e + 7) w).toNat : Nat) : Int)))) := rfl
theorem s_kn_M {M : Mm} {e p w : Nat} : s_kn (vM M e) p w = (M.1 (e + 22) w).toNat.testBit p := rfl
theorem s_bar_M {M : Mm} {e w : Nat} : s_bar (vM M e) w = (decide (M.1 (e + 31) 7 = 1) && !decide (M.1 (e + 23) w = 0)) := rfl
theorem s_can_M {M : Mm} {e p w : Nat} : s_can (vM M e) p w = (decide (M.1 (e + 18) w = M.1 (e + 31) 0) && (decide (M.1 (e + 19) w < M.1 e 9) && (s_kn (vM M e) p w && !s_bar (vM M e) w))) := rfl
theorem s_cost_M {M : Mm} {e w : Nat} : s_cost (vM M e) w = if M.1 (e + 17) w = 1 then s_half (M.1 (e + 20) w) else if M.1 (e + 17) w = 3 then s_half (M.1 (e + 20) w) else if M.1 (e + 17) w = 2 then M.1 (e + 20) w + M.1 (e + 21) w else if M.1 (e + 17) w = 5 then M.1 (e + 20) w + M.1 (e + 21) w + 5 else M.1 (e + 20) w := rfl
theorem s_vote_M {M : Mm} {e w : Nat} : s_vote (vM M e) w = (decide (M.1 (e + 31) 6 = 0) || (!decide (M.1 (e + 17) w = 4) || decide (M.1 e 18 ≤ 2 * ((s_pc (M.1 (e + 22) w).toNat : Nat) : Int)))) := rfl
theorem s_shl_E {M : Mm} {e p : Nat} : s_shl (vE M e) p = shl (M.1 (e + 9 + 1 + 1 * p)) 0 (M.1 (e + 14) p).toNat := rfl
theorem s_shl_M {M : Mm} {e p : Nat} : s_shl (vM M e) p = shl (M.1 (e + 24 + 1 + 1 * p)) 0 (M.1 (e + 29) p).toNat := rfl
/-- how many sheets have a word, of the first n people -/
def s_sw (E : Ev) (w : Nat) : Nat → Nat
  | 0 => 0
  | n + 1 => s_sw E w n + (s_shl E n).count w
/-- the columns that a person fills by a letter, of the first n words: bits -/
def s_cf (E : Ev) (p : Nat) (l : Int) : Nat → Nat
  | 0 => 0
  | n + 1 => if (decide (E.1 3 n = l) && (s_kn E p n && !s_bar E n)) = true then s_cf E p l n ||| 2 ^ (E.1 4 n).toNat else s_cf E p l n
def s_fill (E : Ev) (p : Nat) (l : Int) : Nat := s_pc (s_cf E p l (E.1 0 1).toNat)
/-- whether all of the first n people but one fill less -/
def s_most (E : Ev) (p : Nat) (l : Int) : Nat → Bool
  | 0 => true
  | n + 1 => s_most E p l n && (decide (n = p) || decide (s_fill E n l < s_fill E p l))
/-- how many of the first n words are used -/
def s_us (E : Ev) : Nat → Nat
  | 0 => 0
  | n + 1 => s_us E n + (if E.1 8 n = 0 then 0 else 1)
/-- the first of the first n people with the greatest score -/
def s_fs (E : Ev) : Nat → Nat
  | 0 => 0
  | n + 1 => if en_wr (E.1 15 (s_fs E n)) < en_wr (E.1 15 n) then n else s_fs E n
theorem s_cf_lt {E : Ev} {p : Nat} {l : Int} (hW : s_wok E) (hn : s_num E) : ∀ n : Nat, (n : Int) ≤ E.1 0 1 → s_cf E p l n < 2 ^ 5
  | 0, _ => by simp [s_cf]
  | n + 1, h => by
    have ih := s_cf_lt (p := p) (l := l) hW hn n (by omega)
    have hw := hW n (by omega)
    unfold s_cf
    split
    · exact nu_orlt ih (by obtain ⟨-, -, h3, -⟩ := hw; have := hn.1; omega)
    · exact ih
theorem s_fill_b {E : Ev} {p : Nat} {l : Int} : s_fill E p l ≤ 24 := Nat.le_trans (List.length_filter_le _ _) (by simp)
theorem s_fs_lt (E : Ev) : ∀ n, 0 < n → s_fs E n < n
  | 0, h => absurd h (Nat.lt_irrefl 0)
  | 1, _ => by
    unfold s_fs s_fs
    split <;> decide
  | n + 2, _ => by
    have ih := s_fs_lt E (n + 1) (by omega)
    rw [s_fs]
    split <;> omega
/-- the place of the first number that can't be on a sheet with those ahead of it -/
def s_fw (E : Ev) (p : Nat) (f : Nat → Int) : Nat → Nat → Nat → Int
  | 0, _, _ => -1
  | n + 1, i, tk => if f i < 0 then (i : Int) else if E.1 0 1 ≤ f i then (i : Int) else if s_can E p (f i).toNat = true then (if tk.testBit (E.1 4 (f i).toNat).toNat = true then (i : Int) else s_fw E p f n (i + 1) (tk ||| 2 ^ (E.1 4 (f i).toNat).toNat)) else (i : Int)
/-- a stretch of a row written anew -/
def pr (M : Mm) (a : Nat) (f : Nat → Int) (n : Nat) : Mm := (fun b => if b = a then (fun i => if i < n then f i else M.1 a i) else M.1 b, M.2)
theorem pr_ne {M : Mm} {a b n : Nat} {f : Nat → Int} (h : b ≠ a) : (pr M a f n).1 b = M.1 b := by simp [pr, h]
theorem pr_step {M : Mm} {a n : Nat} {f : Nat → Int} {x : Int} (h : x = f n) : en_wI (pr M a f n) a n x = pr M a f (n + 1) := by
  subst h
  unfold en_wI pr
  refine Prod.ext (funext fun b => ?_) rfl
  by_cases hb : b = a
  · subst hb
    simp only [if_true]
    funext i
    by_cases hi : i = n
    · subst hi
      simp
    · have e : (i < n + 1) ↔ (i < n) := by omega
      simp [hi, e]
  · simp [hb]
theorem pr_0 {M : Mm} {a : Nat} {f : Nat → Int} : pr M a f 0 = M := by
  unfold pr
  refine Prod.ext (funext fun b => ?_) rfl
  by_cases hb : b = a
  · subst hb; simp
  · simp [hb]
theorem s_cf_tE {M : Mm} {e p n : Nat} {l : Int} (h1 : M.1 (e + 3) n = l) (h2 : s_kn (vE M e) p n = true) (h3 : ¬ s_bar (vE M e) n = true) : s_cf (vE M e) p l (n + 1) = s_cf (vE M e) p l n ||| 2 ^ (M.1 (e + 4) n).toNat := by
  show (if (decide (M.1 (e + 3) n = l) && (s_kn (vE M e) p n && !s_bar (vE M e) n)) = true then _ else _) = _
  rw [if_pos (by simp [h1, h2, h3])]
  rfl
theorem s_cf_fE {M : Mm} {e p n : Nat} {l : Int} (h : ¬ (M.1 (e + 3) n = l ∧ s_kn (vE M e) p n = true ∧ ¬ s_bar (vE M e) n = true)) : s_cf (vE M e) p l (n + 1) = s_cf (vE M e) p l n := by
  show (if (decide (M.1 (e + 3) n = l) && (s_kn (vE M e) p n && !s_bar (vE M e) n)) = true then _ else _) = _
  rw [if_neg (by simpa using h)]
theorem s_cf_tM {M : Mm} {e p n : Nat} {l : Int} (h1 : M.1 (e + 18) n = l) (h2 : s_kn (vM M e) p n = true) (h3 : ¬ s_bar (vM M e) n = true) : s_cf (vM M e) p l (n + 1) = s_cf (vM M e) p l n ||| 2 ^ (M.1 (e + 19) n).toNat := by
  show (if (decide (M.1 (e + 18) n = l) && (s_kn (vM M e) p n && !s_bar (vM M e) n)) = true then _ else _) = _
  rw [if_pos (by simp [h1, h2, h3])]
  rfl
theorem s_cf_fM {M : Mm} {e p n : Nat} {l : Int} (h : ¬ (M.1 (e + 18) n = l ∧ s_kn (vM M e) p n = true ∧ ¬ s_bar (vM M e) n = true)) : s_cf (vM M e) p l (n + 1) = s_cf (vM M e) p l n := by
  show (if (decide (M.1 (e + 18) n = l) && (s_kn (vM M e) p n && !s_bar (vM M e) n)) = true then _ else _) = _
  rw [if_neg (by simpa using h)]
theorem s_fw_E {M : Mm} {e p n i tk : Nat} {f : Nat → Int} : s_fw (vE M e) p f (n + 1) i tk = if f i < 0 then (i : Int) else if M.1 e 1 ≤ f i then (i : Int) else if s_can (vE M e) p (f i).toNat = true then (if tk.testBit (M.1 (e + 4) (f i).toNat).toNat = true then (i : Int) else s_fw (vE M e) p f n (i + 1) (tk ||| 2 ^ (M.1 (e + 4) (f i).toNat).toNat)) else (i : Int) := rfl
/-- two evenings with the same numbers -/
def evq (E F : Ev) : Prop := (∀ i, i < 4 → E.1 0 i = F.1 0 i) ∧ (∀ i, i < 8 → E.1 1 i = F.1 1 i) ∧ (∀ r i, 2 ≤ r → r ≤ 8 → i < 24 → E.1 r i = F.1 r i) ∧ (∀ i, i < 4 → E.1 14 i = F.1 14 i ∧ E.1 15 i = F.1 15 i) ∧ ∀ p i, p < 4 → i < 5 → E.2 p i = F.2 p i
/-- behind a copy of an evening: the block at e says what that at o said; nothing else has changed -/
def cpd (M M' : Mm) (e o : Nat) : Prop := M'.2 = M.2 ∧ (∀ a, a < e ∨ e + 16 ≤ a → M'.1 a = M.1 a) ∧ evq (vE M' e) (vE M o)
