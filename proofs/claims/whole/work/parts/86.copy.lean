/-! copy -/
def tPair (M : Mm) (p q : Int) : Int := if (0 ≤ p ∧ p ≤ 7) ∧ (0 ≤ q ∧ q ≤ 7) then (if M.1 (68 + 2 * p.toNat) 0 = 10 ∨ M.1 (68 + 2 * q.toNat) 0 = 10 then -3 else if (0 ≤ M.1 (68 + 2 * p.toNat) 0 ∧ M.1 (68 + 2 * p.toNat) 0 ≤ 4) ∧ (0 ≤ M.1 (68 + 2 * q.toNat) 0 ∧ M.1 (68 + 2 * q.toNat) 0 ≤ 4) then (if M.1 (68 + 2 * p.toNat) 0 = M.1 (68 + 2 * q.toNat) 0 then 0 else -3) else -4) else -2
theorem tPair_c (M : Mm) (p q : Int) : tPair M p q = -2 ∨ tPair M p q = -3 ∨ tPair M p q = -4 ∨ (tPair M p q = 0 ∧ ((0 ≤ p ∧ p ≤ 7) ∧ (0 ≤ q ∧ q ≤ 7)) ∧ ((0 ≤ M.1 (68 + 2 * p.toNat) 0 ∧ M.1 (68 + 2 * p.toNat) 0 ≤ 4) ∧ (0 ≤ M.1 (68 + 2 * q.toNat) 0 ∧ M.1 (68 + 2 * q.toNat) 0 ≤ 4)) ∧ M.1 (68 + 2 * p.toNat) 0 = M.1 (68 + 2 * q.toNat) 0) := by
  unfold tPair
  split
  · split
    · exact Or.inr (Or.inl rfl)
    · split
      · split
        · exact Or.inr (Or.inr (Or.inr ⟨rfl, ‹_›, ‹_›, ‹_›⟩))
        · exact Or.inr (Or.inl rfl)
      · exact Or.inr (Or.inr (Or.inl rfl))
  · exact Or.inl rfl
theorem R_tPair (M : Mm) (hS : cS M) (p q : Int) (hp : -2147483648 ≤ p ∧ p < 2147483648) (hq : -2147483648 ≤ q ∧ q < 2147483648) : en_Ct 3 0 127 [.inr (.inr (1, 5, 0)), .inl p, .inl q] M (fun r M' => r = some (.inl (tPair M p q)) ∧ M' = M) := by
  have hA : (0 ≤ p ∧ p ≤ 7) → (-1 ≤ M.1 (68 + 2 * p.toNat) 0 ∧ M.1 (68 + 2 * p.toNat) 0 ≤ 10) := fun z => sh_X hS (by omega)
  have hB : (0 ≤ q ∧ q ≤ 7) → (-1 ≤ M.1 (68 + 2 * q.toNat) 0 ∧ M.1 (68 + 2 * q.toNat) 0 ≤ 10) := fun z => sh_X hS (by omega)
  refine ct_127 rfl ?_
  refine aw_127_0 ?_
  by_cases c1 : 0 ≤ p ∧ p ≤ 7
  · refine ⟨2, 0, by first | decide | omega, by first | decide | omega, en_Ct_t (R_isShelf p (by omega) _) c1 ?_⟩
    refine br_eq_n (by decide) (by decide) (by decide) ?_
    by_cases c3 : 0 ≤ q ∧ q ≤ 7
    · refine ⟨2, 0, by first | decide | omega, by first | decide | omega, en_Ct_t (R_isShelf q (by omega) _) c3 ?_⟩
      refine br_ne_y (by decide) (by decide) (by decide) ?_
      refine aw_127_17 ?_
      refine ⟨p.toNat, it_nn (x := p) (by omega), (show p.toNat < 8 by omega), ?_⟩
      refine ⟨q.toNat, it_nn (x := q) (by omega), (show q.toNat < 8 by omega), ?_⟩
      by_cases c5 : M.1 (68 + 2 * p.toNat) 0 = 10
      · refine ⟨1, 0, by first | decide | omega, by first | decide | omega, en_Ct_t (R_hasWord (68 + 2 * p.toNat) M (by omega)) c5 ?_⟩
        refine br_ne_y (by decide) (by decide) (by decide) ?_
        refine aw_127_47 ?_
        first
          | exfalso
            omega
          | refine ⟨congrArg (fun z => some (Sum.inl z)) (show ((-3) : Int) = tPair M p q from ?_), rfl⟩
            unfold tPair
            repeat first | rw [if_pos (by omega)] | rw [if_neg (by omega)]
      · refine ⟨1, 0, by first | decide | omega, by first | decide | omega, en_Ct_f (R_hasWord (68 + 2 * p.toNat) M (by omega)) c5 ?_⟩
        refine br_ne_n (by decide) (by decide) (by decide) ?_
        by_cases c8 : M.1 (68 + 2 * q.toNat) 0 = 10
        · refine ⟨1, 0, by first | decide | omega, by first | decide | omega, en_Ct_t (R_hasWord (68 + 2 * q.toNat) M (by omega)) c8 ?_⟩
          refine br_eq_n (by decide) (by decide) (by decide) ?_
          refine aw_127_47 ?_
          first
            | exfalso
              omega
            | refine ⟨congrArg (fun z => some (Sum.inl z)) (show ((-3) : Int) = tPair M p q from ?_), rfl⟩
              unfold tPair
              repeat first | rw [if_pos (by omega)] | rw [if_neg (by omega)]
        · refine ⟨1, 0, by first | decide | omega, by first | decide | omega, en_Ct_f (R_hasWord (68 + 2 * q.toNat) M (by omega)) c8 ?_⟩
          refine br_eq_y (by decide) (by decide) (by decide) ?_
          refine aw_127_50 ?_
          by_cases c11 : 0 ≤ M.1 (68 + 2 * p.toNat) 0 ∧ M.1 (68 + 2 * p.toNat) 0 ≤ 4
          · refine ⟨2, 0, by first | decide | omega, by first | decide | omega, en_Ct_t (R_hasRow (68 + 2 * p.toNat) M (by omega)) c11 ?_⟩
            refine br_eq_n (by decide) (by decide) (by decide) ?_
            by_cases c13 : 0 ≤ M.1 (68 + 2 * q.toNat) 0 ∧ M.1 (68 + 2 * q.toNat) 0 ≤ 4
            · refine ⟨2, 0, by first | decide | omega, by first | decide | omega, en_Ct_t (R_hasRow (68 + 2 * q.toNat) M (by omega)) c13 ?_⟩
              refine br_ne_y (by decide) (by decide) (by decide) ?_
              refine aw_127_68 ?_
              refine br_ne (a := M.1 (68 + 2 * p.toNat) 0) (b := M.1 (68 + 2 * q.toNat) 0) (by omega) (by omega) (fun q15 => ?_) (fun q15 => ?_)
              · refine aw_127_84 ?_
                refine aw_127_86 ?_
                first
                  | exfalso
                    omega
                  | refine ⟨congrArg (fun z => some (Sum.inl z)) (show ((-3) : Int) = tPair M p q from ?_), rfl⟩
                    unfold tPair
                    repeat first | rw [if_pos (by omega)] | rw [if_neg (by omega)]
              · refine aw_127_86 ?_
                first
                  | exfalso
                    omega
                  | refine ⟨congrArg (fun z => some (Sum.inl z)) (show (0 : Int) = tPair M p q from ?_), rfl⟩
                    unfold tPair
                    repeat first | rw [if_pos (by omega)] | rw [if_neg (by omega)]
            · refine ⟨2, 0, by first | decide | omega, by first | decide | omega, en_Ct_f (R_hasRow (68 + 2 * q.toNat) M (by omega)) c13 ?_⟩
              refine br_ne_n (by decide) (by decide) (by decide) ?_
              refine aw_127_65 ?_
              first
                | exfalso
                  omega
                | refine ⟨congrArg (fun z => some (Sum.inl z)) (show ((-4) : Int) = tPair M p q from ?_), rfl⟩
                  unfold tPair
                  repeat first | rw [if_pos (by omega)] | rw [if_neg (by omega)]
          · refine ⟨2, 0, by first | decide | omega, by first | decide | omega, en_Ct_f (R_hasRow (68 + 2 * p.toNat) M (by omega)) c11 ?_⟩
            refine br_eq_y (by decide) (by decide) (by decide) ?_
            refine aw_127_65 ?_
            first
              | exfalso
                omega
              | refine ⟨congrArg (fun z => some (Sum.inl z)) (show ((-4) : Int) = tPair M p q from ?_), rfl⟩
                unfold tPair
                repeat first | rw [if_pos (by omega)] | rw [if_neg (by omega)]
    · refine ⟨2, 0, by first | decide | omega, by first | decide | omega, en_Ct_f (R_isShelf q (by omega) _) c3 ?_⟩
      refine br_ne_n (by decide) (by decide) (by decide) ?_
      refine aw_127_14 ?_
      first
        | exfalso
          omega
        | refine ⟨congrArg (fun z => some (Sum.inl z)) (show ((-2) : Int) = tPair M p q from ?_), rfl⟩
          unfold tPair
          repeat first | rw [if_pos (by omega)] | rw [if_neg (by omega)]
  · refine ⟨2, 0, by first | decide | omega, by first | decide | omega, en_Ct_f (R_isShelf p (by omega) _) c1 ?_⟩
    refine br_eq_y (by decide) (by decide) (by decide) ?_
    refine aw_127_14 ?_
    first
      | exfalso
        omega
      | refine ⟨congrArg (fun z => some (Sum.inl z)) (show ((-2) : Int) = tPair M p q from ?_), rfl⟩
        unfold tPair
        repeat first | rw [if_pos (by omega)] | rw [if_neg (by omega)]
theorem R_tPairv {M : Mm} (hS : cS M) {p q v : Int} (hp : -2147483648 ≤ p ∧ p < 2147483648) (hq : -2147483648 ≤ q ∧ q < 2147483648) (h : tPair M p q = v) : en_Ct 3 0 127 [.inr (.inr (1, 5, 0)), .inl p, .inl q] M (fun r M' => r = some (.inl v) ∧ M' = M) := h ▸ R_tPair M hS p q hp hq
def a_copy (M : Mm) (p q i j n : Int) : Nat × Int := if tPair M p q = 0 then (if 0 ≤ n ∧ (0 ≤ i ∧ i ≤ M.1 (68 + 2 * p.toNat) 1 - n) ∧ (0 ≤ j ∧ j ≤ M.1 (68 + 2 * q.toNat) 1 - n) then (0, n) else (1, -2)) else ((-1 - tPair M p q).toNat, tPair M p q)
theorem R_copyX (M : Mm) (hS : cS M) (p q i j n : Int) (hp : -2147483648 ≤ p ∧ p < 2147483648) (hq : -2147483648 ≤ q ∧ q < 2147483648) (hi : -2147483648 ≤ i ∧ i < 2147483648) (hj : -2147483648 ≤ j ∧ j < 2147483648) (hn : -2147483648 ≤ n ∧ n < 2147483648) : en_Ct 9 0 70 [.inr (.inr (1, 5, 0)), .inl p, .inl q, .inl i, .inl j, .inl n] M (fun r M' => r = some (.inl (a_copy M p q i j n).2) ∧ (((a_copy M p q i j n).1 ≠ 0 ∧ M' = aX M (a_copy M p q i j n).1) ∨ ((a_copy M p q i j n).1 = 0 ∧ M' = en_cL M (68 + 2 * p.toNat + 1) (68 + 2 * q.toNat + 1) i.toNat j.toNat n.toNat))) := by
  have hs1 : (0 ≤ p ∧ p ≤ 7) → (0 ≤ M.1 (68 + 2 * p.toNat) 0 ∧ M.1 (68 + 2 * p.toNat) 0 ≤ 4) → (0 ≤ M.1 (68 + 2 * p.toNat) 1 ∧ M.1 (68 + 2 * p.toNat) 1 ≤ 40) := fun z z2 => sh_X2 hS (by omega) z2
  have hs2 : (0 ≤ q ∧ q ≤ 7) → (0 ≤ M.1 (68 + 2 * q.toNat) 0 ∧ M.1 (68 + 2 * q.toNat) 0 ≤ 4) → (0 ≤ M.1 (68 + 2 * q.toNat) 1 ∧ M.1 (68 + 2 * q.toNat) 1 ≤ 40) := fun z z2 => sh_X2 hS (by omega) z2
  refine ct_70 rfl ?_
  refine aw_70_0 ?_
  rcases tPair_c M p q with tv | tv | tv | ⟨tv, t1, t2, t3⟩
  · refine ⟨3, 0, by first | decide | omega, by first | decide | omega, en_Ct_eq (R_tPairv hS hp hq tv) ?_⟩
    refine br_eq_n (by decide) (by decide) (by decide) ?_
    refine ⟨2, 0, by first | decide | omega, by first | decide | omega, en_Ct_eq (R_refX (-2) (by omega) M) ?_⟩
    first
      | exfalso
        omega
      | have ha : a_copy M p q i j n = (1, (-2)) := by
          unfold a_copy
          rw [tv]
          first | rfl | (rw [if_pos rfl]; repeat first | rw [if_pos (by omega)] | rw [if_neg (by omega)])
        rw [ha]
        exact ⟨rfl, Or.inl ⟨by decide, rfl⟩⟩
  · refine ⟨3, 0, by first | decide | omega, by first | decide | omega, en_Ct_eq (R_tPairv hS hp hq tv) ?_⟩
    refine br_eq_n (by decide) (by decide) (by decide) ?_
    refine ⟨2, 0, by first | decide | omega, by first | decide | omega, en_Ct_eq (R_refX (-3) (by omega) M) ?_⟩
    first
      | exfalso
        omega
      | have ha : a_copy M p q i j n = (2, (-3)) := by
          unfold a_copy
          rw [tv]
          first | rfl | (rw [if_pos rfl]; repeat first | rw [if_pos (by omega)] | rw [if_neg (by omega)])
        rw [ha]
        exact ⟨rfl, Or.inl ⟨by decide, rfl⟩⟩
  · refine ⟨3, 0, by first | decide | omega, by first | decide | omega, en_Ct_eq (R_tPairv hS hp hq tv) ?_⟩
    refine br_eq_n (by decide) (by decide) (by decide) ?_
    refine ⟨2, 0, by first | decide | omega, by first | decide | omega, en_Ct_eq (R_refX (-4) (by omega) M) ?_⟩
    first
      | exfalso
        omega
      | have ha : a_copy M p q i j n = (3, (-4)) := by
          unfold a_copy
          rw [tv]
          first | rfl | (rw [if_pos rfl]; repeat first | rw [if_pos (by omega)] | rw [if_neg (by omega)])
        rw [ha]
        exact ⟨rfl, Or.inl ⟨by decide, rfl⟩⟩
  · refine ⟨3, 0, by first | decide | omega, by first | decide | omega, en_Ct_eq (R_tPairv hS hp hq tv) ?_⟩
    refine br_eq_y (by decide) (by decide) (by decide) ?_
    refine aw_70_20 ?_
    refine ⟨p.toNat, it_nn (x := p) (by omega), (show p.toNat < 8 by omega), ?_⟩
    refine ⟨q.toNat, it_nn (x := q) (by omega), (show q.toNat < 8 by omega), ?_⟩
    refine br_lt (a := n) (b := 0) (by omega) (by omega) (fun q5 => ?_) (fun q5 => ?_)
    · refine aw_70_74 ?_
      refine ⟨2, 0, by first | decide | omega, by first | decide | omega, en_Ct_eq (R_refX (-2) (by omega) M) ?_⟩
      first
        | exfalso
          omega
        | have ha : a_copy M p q i j n = (1, (-2)) := by
            unfold a_copy
            rw [tv]
            first | rfl | (rw [if_pos rfl]; repeat first | rw [if_pos (by omega)] | rw [if_neg (by omega)])
          rw [ha]
          exact ⟨rfl, Or.inl ⟨by decide, rfl⟩⟩
    · by_cases c6 : 0 ≤ i ∧ i ≤ ((M.1 (68 + 2 * p.toNat) 1) - n)
      · refine ⟨1, 0, by first | decide | omega, by first | decide | omega, en_Ct_t (R_within i 0 ((M.1 (68 + 2 * p.toNat) 1) - n) (by omega) (by omega) (by omega) _) c6 ?_⟩
        refine br_eq_n (by decide) (by decide) (by decide) ?_
        by_cases c8 : 0 ≤ j ∧ j ≤ ((M.1 (68 + 2 * q.toNat) 1) - n)
        · refine ⟨1, 0, by first | decide | omega, by first | decide | omega, en_Ct_t (R_within j 0 ((M.1 (68 + 2 * q.toNat) 1) - n) (by omega) (by omega) (by omega) _) c8 ?_⟩
          refine br_ne_y (by decide) (by decide) (by decide) ?_
          refine aw_70_81 ?_
          refine ⟨n.toNat, j.toNat, i.toNat, it_nn (x := n) (by omega), it_nn (x := j) (by omega), it_nn (x := i) (by omega), (show i.toNat + n.toNat ≤ 40 by omega), (show j.toNat + n.toNat ≤ 40 by omega), ?_⟩
          have ha : a_copy M p q i j n = (0, n) := by
            unfold a_copy
            rw [tv, if_pos rfl]
            repeat first | rw [if_pos (by omega)] | rw [if_neg (by omega)]
          rw [ha]
          exact ⟨rfl, Or.inr ⟨rfl, rfl⟩⟩
        · refine ⟨1, 0, by first | decide | omega, by first | decide | omega, en_Ct_f (R_within j 0 ((M.1 (68 + 2 * q.toNat) 1) - n) (by omega) (by omega) (by omega) _) c8 ?_⟩
          refine br_ne_n (by decide) (by decide) (by decide) ?_
          refine aw_70_74 ?_
          refine ⟨2, 0, by first | decide | omega, by first | decide | omega, en_Ct_eq (R_refX (-2) (by omega) M) ?_⟩
          first
            | exfalso
              omega
            | have ha : a_copy M p q i j n = (1, (-2)) := by
                unfold a_copy
                rw [tv]
                first | rfl | (rw [if_pos rfl]; repeat first | rw [if_pos (by omega)] | rw [if_neg (by omega)])
              rw [ha]
              exact ⟨rfl, Or.inl ⟨by decide, rfl⟩⟩
      · refine ⟨1, 0, by first | decide | omega, by first | decide | omega, en_Ct_f (R_within i 0 ((M.1 (68 + 2 * p.toNat) 1) - n) (by omega) (by omega) (by omega) _) c6 ?_⟩
        refine br_eq_y (by decide) (by decide) (by decide) ?_
        refine aw_70_74 ?_
        refine ⟨2, 0, by first | decide | omega, by first | decide | omega, en_Ct_eq (R_refX (-2) (by omega) M) ?_⟩
        first
          | exfalso
            omega
          | have ha : a_copy M p q i j n = (1, (-2)) := by
              unfold a_copy
              rw [tv]
              first | rfl | (rw [if_pos rfl]; repeat first | rw [if_pos (by omega)] | rw [if_neg (by omega)])
            rw [ha]
            exact ⟨rfl, Or.inl ⟨by decide, rfl⟩⟩
/-- what the reference's copy leaves: moved, then the row -/
def mvM (M : Mm) (p i n : Nat) : Mm := prL M 97 (fun k => M.2 (89 + 1 * p) (i + k)) n
def cpM (M : Mm) (q j : Nat) (f : Nat → Int) (n : Nat) : Mm := (M.1, fun b => if b = 89 + 1 * q then (fun k => if j ≤ k ∧ k < j + n then f (k - j) else M.2 (89 + 1 * q) k) else M.2 b)
theorem cpM_0 {M : Mm} {q j : Nat} {f : Nat → Int} : cpM M q j f 0 = M := by
  unfold cpM
  refine Prod.ext rfl (funext fun b => ?_)
  by_cases hb : b = 89 + 1 * q
  · subst hb
    simp only [if_true]
    funext k
    rw [if_neg (by omega)]
  · simp only [if_neg hb]
theorem cpM_s {M : Mm} {q j n : Nat} {f : Nat → Int} {x : Int} (hx : x = f n) : en_wL (cpM M q j f n) (89 + 1 * q) (j + n) x = cpM M q j f (n + 1) := by
  subst hx
  unfold cpM en_wL
  refine Prod.ext rfl (funext fun b => ?_)
  by_cases hb : b = 89 + 1 * q
  · subst hb
    simp only [if_true]
    funext k
    by_cases hk : k = j + n
    · subst hk
      rw [if_pos rfl, if_pos (by omega), show j + n - j = n by omega]
    · rw [if_neg hk]
      by_cases h2 : j ≤ k ∧ k < j + n
      · rw [if_pos h2, if_pos (by omega)]
      · rw [if_neg h2, if_neg (by omega)]
  · simp only [if_neg hb]
theorem L_cp1 {post : Option AV → Mm → Prop} (M : Mm) (p q i j m : Nat) (hp8 : p < 8) (hm : m ≤ 40) (him : i + m ≤ 40) (hx : en_AW 9 0 149 post 222 [some (.inr (.inr (1, 6, 84))), some (.inl ((p : Nat) : Int)), some (.inl ((q : Nat) : Int)), some (.inl ((i : Nat) : Int)), some (.inl ((j : Nat) : Int)), some (.inl ((m : Nat) : Int)), none] [] (mvM M p i m) 0) : ∀ (n : Nat) (k : Nat), (k + n = m) → en_AW 9 0 149 post 191 [some (.inr (.inr (1, 6, 84))), some (.inl ((p : Nat) : Int)), some (.inl ((q : Nat) : Int)), some (.inl ((i : Nat) : Int)), some (.inl ((j : Nat) : Int)), some (.inl ((m : Nat) : Int)), some (.inl ((k : Nat) : Int))] [] (mvM M p i k) 0 := by
  intro n
  induction n with
  | zero =>
    intro k hk
    refine aw_149_191 ?_
    refine br_ge_y (a := ((k : Nat) : Int)) (b := ((m : Nat) : Int)) (by omega) (by omega) (by omega) ?_
    refine en_AW_drop [true, true, true, true, true, true, false] ?_
    rw [show k = m by omega]
    exact hx
  | succ n ih =>
    intro k hk
    refine aw_149_191 ?_
    refine br_ge_n (a := ((k : Nat) : Int)) (b := ((m : Nat) : Int)) (by omega) (by omega) (by omega) ?_
    refine ⟨p, rfl, (show p < 8 by omega), ?_⟩
    refine ⟨i + k, rfl, (show i + k < 40 by omega), ?_⟩
    refine ⟨k, rfl, (show k < 40 by omega), ?_⟩
    refine en_AW_M (show en_wL (mvM M p i k) 97 k ((mvM M p i k).2 (89 + 1 * p) (i + k)) = mvM M p i (k + 1) from prL_step (by show (if 89 + 1 * p = 97 then _ else M.2 (89 + 1 * p)) (i + k) = _; rw [if_neg (by omega)])) ?_
    exact ih (k + 1) (by omega)
theorem L_cp2 {post : Option AV → Mm → Prop} (M : Mm) (f : Nat → Int) (hf : M.2 97 = f) (p q i j m : Nat) (hq8 : q < 8) (hm : m ≤ 40) (hjm : j + m ≤ 40) (hx : post (some (.inl ((m : Nat) : Int))) (cpM M q j f m)) : ∀ (n : Nat) (k : Nat), (k + n = m) → en_AW 9 0 149 post 225 [some (.inr (.inr (1, 6, 84))), some (.inl ((p : Nat) : Int)), some (.inl ((q : Nat) : Int)), some (.inl ((i : Nat) : Int)), some (.inl ((j : Nat) : Int)), some (.inl ((m : Nat) : Int)), some (.inl ((k : Nat) : Int))] [] (cpM M q j f k) 0 := by
  intro n
  induction n with
  | zero =>
    intro k hk
    refine aw_149_225 ?_
    refine br_ge_y (a := ((k : Nat) : Int)) (b := ((m : Nat) : Int)) (by omega) (by omega) (by omega) ?_
    refine aw_149_257 ?_
    rw [show k = m by omega]
    exact hx
  | succ n ih =>
    intro k hk
    refine aw_149_225 ?_
    refine br_ge_n (a := ((k : Nat) : Int)) (b := ((m : Nat) : Int)) (by omega) (by omega) (by omega) ?_
    refine ⟨q, rfl, (show q < 8 by omega), ?_⟩
    refine ⟨k, rfl, (show k < 40 by omega), ?_⟩
    refine ⟨j + k, rfl, (show j + k < 40 by omega), ?_⟩
    refine en_AW_M (show en_wL (cpM M q j f k) (89 + 1 * q) (j + k) ((cpM M q j f k).2 97 k) = cpM M q j f (k + 1) from cpM_s (by show (if 97 = 89 + 1 * q then _ else M.2 97) k = _; rw [if_neg (by omega), hf])) ?_
    exact ih (k + 1) (by omega)
def a_copyM (M : Mm) (p q i j n : Int) : Nat × Int := if (0 ≤ p ∧ p ≤ 7) ∧ (0 ≤ q ∧ q ≤ 7) then (if (M.1 85 p.toNat = 2 ∨ M.1 85 q.toNat = 2) ∨ (M.1 85 p.toNat = 1 ∧ M.1 85 q.toNat = 1 ∧ M.1 86 p.toNat ≠ M.1 86 q.toNat) then (2, -3) else if M.1 85 p.toNat = 0 ∨ M.1 85 q.toNat = 0 then (3, -4) else if (0 ≤ n ∧ 0 ≤ i ∧ 0 ≤ j) ∧ n ≤ M.1 87 p.toNat ∧ n ≤ M.1 87 q.toNat ∧ i ≤ M.1 87 p.toNat - n ∧ j ≤ M.1 87 q.toNat - n then (0, n) else (1, -2)) else (1, -2)
theorem R_copyM (M : Mm) (hA : ∀ k : Nat, k < 8 → 0 ≤ M.1 85 k ∧ M.1 85 k ≤ 2) (hB : ∀ k : Nat, k < 8 → M.1 85 k = 1 → (0 ≤ M.1 87 k ∧ M.1 87 k ≤ 40) ∧ (0 ≤ M.1 86 k ∧ M.1 86 k ≤ 4)) (p q i j n : Int) (hp : -2147483648 ≤ p ∧ p < 2147483648) (hq : -2147483648 ≤ q ∧ q < 2147483648) (hi : -2147483648 ≤ i ∧ i < 2147483648) (hj : -2147483648 ≤ j ∧ j < 2147483648) (hn : -2147483648 ≤ n ∧ n < 2147483648) : en_Ct 9 0 149 [.inr (.inr (1, 6, 84)), .inl p, .inl q, .inl i, .inl j, .inl n] M (fun r M' => r = some (.inl (a_copyM M p q i j n).2) ∧ (((a_copyM M p q i j n).1 ≠ 0 ∧ M' = aM M (a_copyM M p q i j n).1) ∨ ((a_copyM M p q i j n).1 = 0 ∧ M' = cpM (mvM M p.toNat i.toNat n.toNat) q.toNat j.toNat ((mvM M p.toNat i.toNat n.toNat).2 97) n.toNat))) := by
  have hA1 : (0 ≤ p ∧ p ≤ 7) → (0 ≤ M.1 85 p.toNat ∧ M.1 85 p.toNat ≤ 2) := fun z => hA _ (by omega)
  have hA2 : (0 ≤ q ∧ q ≤ 7) → (0 ≤ M.1 85 q.toNat ∧ M.1 85 q.toNat ≤ 2) := fun z => hA _ (by omega)
  have hB1 : (0 ≤ p ∧ p ≤ 7) → M.1 85 p.toNat = 1 → (0 ≤ M.1 87 p.toNat ∧ M.1 87 p.toNat ≤ 40) ∧ (0 ≤ M.1 86 p.toNat ∧ M.1 86 p.toNat ≤ 4) := fun z => hB _ (by omega)
  have hB2 : (0 ≤ q ∧ q ≤ 7) → M.1 85 q.toNat = 1 → (0 ≤ M.1 87 q.toNat ∧ M.1 87 q.toNat ≤ 40) ∧ (0 ≤ M.1 86 q.toNat ∧ M.1 86 q.toNat ≤ 4) := fun z => hB _ (by omega)
  refine ct_149 rfl ?_
  refine aw_149_0 ?_
  by_cases c1 : 0 ≤ p ∧ p ≤ 7
  · refine ⟨1, 0, by first | decide | omega, by first | decide | omega, en_Ct_t (R_in (en_wr p) 0 7 p 0 7 (wl_wr ⟨by omega, by omega⟩) (wl_of ⟨by omega, by omega⟩) (wl_of ⟨by omega, by omega⟩) _) c1 ?_⟩
    refine br_eq_n (by decide) (by decide) (by decide) ?_
    by_cases c3 : 0 ≤ q ∧ q ≤ 7
    · refine ⟨1, 0, by first | decide | omega, by first | decide | omega, en_Ct_t (R_in (en_wr q) 0 7 q 0 7 (wl_wr ⟨by omega, by omega⟩) (wl_of ⟨by omega, by omega⟩) (wl_of ⟨by omega, by omega⟩) _) c3 ?_⟩
      refine br_ne_y (by decide) (by decide) (by decide) ?_
      refine aw_149_31 ?_
      refine ⟨p.toNat, it_nn (x := p) (by omega), (show p.toNat < 8 by omega), ?_⟩
      refine br_eq (a := M.1 85 p.toNat) (b := 2) (by omega) (by omega) (fun q5 => ?_) (fun q5 => ?_)
      · refine aw_149_86 ?_
        refine ⟨1, 0, by first | decide | omega, by first | decide | omega, en_Ct_eq (R_refM (-3) (by omega) M) ?_⟩
        first
          | exfalso
            omega
          | have ha : a_copyM M p q i j n = (2, (-3)) := by
              unfold a_copyM
              repeat first | rw [if_pos (by omega)] | rw [if_neg (by omega)]
            rw [ha]
            exact ⟨rfl, Or.inl ⟨by decide, rfl⟩⟩
      · refine ⟨q.toNat, it_nn (x := q) (by omega), (show q.toNat < 8 by omega), ?_⟩
        refine br_eq (a := M.1 85 q.toNat) (b := 2) (by omega) (by omega) (fun q6 => ?_) (fun q6 => ?_)
        · refine aw_149_86 ?_
          refine ⟨1, 0, by first | decide | omega, by first | decide | omega, en_Ct_eq (R_refM (-3) (by omega) M) ?_⟩
          first
            | exfalso
              omega
            | have ha : a_copyM M p q i j n = (2, (-3)) := by
                unfold a_copyM
                repeat first | rw [if_pos (by omega)] | rw [if_neg (by omega)]
              rw [ha]
              exact ⟨rfl, Or.inl ⟨by decide, rfl⟩⟩
        · refine ⟨p.toNat, it_nn (x := p) (by omega), (show p.toNat < 8 by omega), ?_⟩
          refine br_ne (a := M.1 85 p.toNat) (b := 1) (by omega) (by omega) (fun q7 => ?_) (fun q7 => ?_)
          · refine aw_149_93 ?_
            refine ⟨p.toNat, it_nn (x := p) (by omega), (show p.toNat < 8 by omega), ?_⟩
            refine br_eq (a := M.1 85 p.toNat) (b := 0) (by omega) (by omega) (fun q8 => ?_) (fun q8 => ?_)
            · refine aw_149_111 ?_
              refine ⟨1, 0, by first | decide | omega, by first | decide | omega, en_Ct_eq (R_refM (-4) (by omega) M) ?_⟩
              first
                | exfalso
                  omega
                | have ha : a_copyM M p q i j n = (3, (-4)) := by
                    unfold a_copyM
                    repeat first | rw [if_pos (by omega)] | rw [if_neg (by omega)]
                  rw [ha]
                  exact ⟨rfl, Or.inl ⟨by decide, rfl⟩⟩
            · refine ⟨q.toNat, it_nn (x := q) (by omega), (show q.toNat < 8 by omega), ?_⟩
              refine br_ne (a := M.1 85 q.toNat) (b := 0) (by omega) (by omega) (fun q9 => ?_) (fun q9 => ?_)
              · refine aw_149_118 ?_
                refine br_lt (a := n) (b := 0) (by omega) (by omega) (fun q10 => ?_) (fun q10 => ?_)
                · refine aw_149_181 ?_
                  refine ⟨1, 0, by first | decide | omega, by first | decide | omega, en_Ct_eq (R_refM (-2) (by omega) M) ?_⟩
                  first
                    | exfalso
                      omega
                    | have ha : a_copyM M p q i j n = (1, (-2)) := by
                        unfold a_copyM
                        repeat first | rw [if_pos (by omega)] | rw [if_neg (by omega)]
                      rw [ha]
                      exact ⟨rfl, Or.inl ⟨by decide, rfl⟩⟩
                · refine br_lt (a := i) (b := 0) (by omega) (by omega) (fun q11 => ?_) (fun q11 => ?_)
                  · refine aw_149_181 ?_
                    refine ⟨1, 0, by first | decide | omega, by first | decide | omega, en_Ct_eq (R_refM (-2) (by omega) M) ?_⟩
                    first
                      | exfalso
                        omega
                      | have ha : a_copyM M p q i j n = (1, (-2)) := by
                          unfold a_copyM
                          repeat first | rw [if_pos (by omega)] | rw [if_neg (by omega)]
                        rw [ha]
                        exact ⟨rfl, Or.inl ⟨by decide, rfl⟩⟩
                  · refine br_lt (a := j) (b := 0) (by omega) (by omega) (fun q12 => ?_) (fun q12 => ?_)
                    · refine aw_149_181 ?_
                      refine ⟨1, 0, by first | decide | omega, by first | decide | omega, en_Ct_eq (R_refM (-2) (by omega) M) ?_⟩
                      first
                        | exfalso
                          omega
                        | have ha : a_copyM M p q i j n = (1, (-2)) := by
                            unfold a_copyM
                            repeat first | rw [if_pos (by omega)] | rw [if_neg (by omega)]
                          rw [ha]
                          exact ⟨rfl, Or.inl ⟨by decide, rfl⟩⟩
                    · refine ⟨p.toNat, it_nn (x := p) (by omega), (show p.toNat < 8 by omega), ?_⟩
                      refine br_gt (a := n) (b := M.1 87 p.toNat) (by omega) (by omega) (fun q13 => ?_) (fun q13 => ?_)
                      · refine aw_149_181 ?_
                        refine ⟨1, 0, by first | decide | omega, by first | decide | omega, en_Ct_eq (R_refM (-2) (by omega) M) ?_⟩
                        first
                          | exfalso
                            omega
                          | have ha : a_copyM M p q i j n = (1, (-2)) := by
                              unfold a_copyM
                              repeat first | rw [if_pos (by omega)] | rw [if_neg (by omega)]
                            rw [ha]
                            exact ⟨rfl, Or.inl ⟨by decide, rfl⟩⟩
                      · refine ⟨q.toNat, it_nn (x := q) (by omega), (show q.toNat < 8 by omega), ?_⟩
                        refine br_gt (a := n) (b := M.1 87 q.toNat) (by omega) (by omega) (fun q14 => ?_) (fun q14 => ?_)
                        · refine aw_149_181 ?_
                          refine ⟨1, 0, by first | decide | omega, by first | decide | omega, en_Ct_eq (R_refM (-2) (by omega) M) ?_⟩
                          first
                            | exfalso
                              omega
                            | have ha : a_copyM M p q i j n = (1, (-2)) := by
                                unfold a_copyM
                                repeat first | rw [if_pos (by omega)] | rw [if_neg (by omega)]
                              rw [ha]
                              exact ⟨rfl, Or.inl ⟨by decide, rfl⟩⟩
                        · refine ⟨p.toNat, it_nn (x := p) (by omega), (show p.toNat < 8 by omega), ?_⟩
                          refine br_gt (a := i) (b := (M.1 87 p.toNat) - n) (by omega) (by omega) (fun q15 => ?_) (fun q15 => ?_)
                          · refine aw_149_181 ?_
                            refine ⟨1, 0, by first | decide | omega, by first | decide | omega, en_Ct_eq (R_refM (-2) (by omega) M) ?_⟩
                            first
                              | exfalso
                                omega
                              | have ha : a_copyM M p q i j n = (1, (-2)) := by
                                  unfold a_copyM
                                  repeat first | rw [if_pos (by omega)] | rw [if_neg (by omega)]
                                rw [ha]
                                exact ⟨rfl, Or.inl ⟨by decide, rfl⟩⟩
                          · refine ⟨q.toNat, it_nn (x := q) (by omega), (show q.toNat < 8 by omega), ?_⟩
                            refine br_le (a := j) (b := (M.1 87 q.toNat) - n) (by omega) (by omega) (fun q16 => ?_) (fun q16 => ?_)
                            · first
                                | exfalso
                                  omega
                                | have ha : a_copyM M p q i j n = (0, n) := by
                                    unfold a_copyM
                                    repeat first | rw [if_pos (by omega)] | rw [if_neg (by omega)]
                                  rw [ha]
                                  obtain ⟨p, rfl⟩ := Int.eq_ofNat_of_zero_le (show 0 ≤ p by omega)
                                  obtain ⟨q, rfl⟩ := Int.eq_ofNat_of_zero_le (show 0 ≤ q by omega)
                                  obtain ⟨i, rfl⟩ := Int.eq_ofNat_of_zero_le (show 0 ≤ i by omega)
                                  obtain ⟨j, rfl⟩ := Int.eq_ofNat_of_zero_le (show 0 ≤ j by omega)
                                  obtain ⟨m, rfl⟩ := Int.eq_ofNat_of_zero_le (show 0 ≤ n by omega)
                                  refine aw_149_188 ?_
                                  refine en_AW_M (show M = mvM M p i 0 from prL_0.symm) ?_
                                  refine L_cp1 M p q i j m (by omega) (by omega) (by omega) ?_ m 0 (by omega)
                                  refine aw_149_222 ?_
                                  refine en_AW_M (show mvM M p i m = cpM (mvM M p i m) q j ((mvM M p i m).2 97) 0 from cpM_0.symm) ?_
                                  exact L_cp2 (mvM M p i m) _ rfl p q i j m (by omega) (by omega) (by omega) ⟨rfl, Or.inr ⟨rfl, rfl⟩⟩ m 0 (by omega)
                            · refine aw_149_181 ?_
                              refine ⟨1, 0, by first | decide | omega, by first | decide | omega, en_Ct_eq (R_refM (-2) (by omega) M) ?_⟩
                              first
                                | exfalso
                                  omega
                                | have ha : a_copyM M p q i j n = (1, (-2)) := by
                                    unfold a_copyM
                                    repeat first | rw [if_pos (by omega)] | rw [if_neg (by omega)]
                                  rw [ha]
                                  exact ⟨rfl, Or.inl ⟨by decide, rfl⟩⟩
              · refine aw_149_111 ?_
                refine ⟨1, 0, by first | decide | omega, by first | decide | omega, en_Ct_eq (R_refM (-4) (by omega) M) ?_⟩
                first
                  | exfalso
                    omega
                  | have ha : a_copyM M p q i j n = (3, (-4)) := by
                      unfold a_copyM
                      repeat first | rw [if_pos (by omega)] | rw [if_neg (by omega)]
                    rw [ha]
                    exact ⟨rfl, Or.inl ⟨by decide, rfl⟩⟩
          · refine ⟨q.toNat, it_nn (x := q) (by omega), (show q.toNat < 8 by omega), ?_⟩
            refine br_ne (a := M.1 85 q.toNat) (b := 1) (by omega) (by omega) (fun q17 => ?_) (fun q17 => ?_)
            · refine aw_149_93 ?_
              refine ⟨p.toNat, it_nn (x := p) (by omega), (show p.toNat < 8 by omega), ?_⟩
              refine br_eq (a := M.1 85 p.toNat) (b := 0) (by omega) (by omega) (fun q18 => ?_) (fun q18 => ?_)
              · refine aw_149_111 ?_
                refine ⟨1, 0, by first | decide | omega, by first | decide | omega, en_Ct_eq (R_refM (-4) (by omega) M) ?_⟩
                first
                  | exfalso
                    omega
                  | have ha : a_copyM M p q i j n = (3, (-4)) := by
                      unfold a_copyM
                      repeat first | rw [if_pos (by omega)] | rw [if_neg (by omega)]
                    rw [ha]
                    exact ⟨rfl, Or.inl ⟨by decide, rfl⟩⟩
              · refine ⟨q.toNat, it_nn (x := q) (by omega), (show q.toNat < 8 by omega), ?_⟩
                refine br_ne (a := M.1 85 q.toNat) (b := 0) (by omega) (by omega) (fun q19 => ?_) (fun q19 => ?_)
                · refine aw_149_118 ?_
                  refine br_lt (a := n) (b := 0) (by omega) (by omega) (fun q20 => ?_) (fun q20 => ?_)
                  · refine aw_149_181 ?_
                    refine ⟨1, 0, by first | decide | omega, by first | decide | omega, en_Ct_eq (R_refM (-2) (by omega) M) ?_⟩
                    first
                      | exfalso
                        omega
                      | have ha : a_copyM M p q i j n = (1, (-2)) := by
                          unfold a_copyM
                          repeat first | rw [if_pos (by omega)] | rw [if_neg (by omega)]
                        rw [ha]
                        exact ⟨rfl, Or.inl ⟨by decide, rfl⟩⟩
                  · refine br_lt (a := i) (b := 0) (by omega) (by omega) (fun q21 => ?_) (fun q21 => ?_)
                    · refine aw_149_181 ?_
                      refine ⟨1, 0, by first | decide | omega, by first | decide | omega, en_Ct_eq (R_refM (-2) (by omega) M) ?_⟩
                      first
                        | exfalso
                          omega
                        | have ha : a_copyM M p q i j n = (1, (-2)) := by
                            unfold a_copyM
                            repeat first | rw [if_pos (by omega)] | rw [if_neg (by omega)]
                          rw [ha]
                          exact ⟨rfl, Or.inl ⟨by decide, rfl⟩⟩
                    · refine br_lt (a := j) (b := 0) (by omega) (by omega) (fun q22 => ?_) (fun q22 => ?_)
                      · refine aw_149_181 ?_
                        refine ⟨1, 0, by first | decide | omega, by first | decide | omega, en_Ct_eq (R_refM (-2) (by omega) M) ?_⟩
                        first
                          | exfalso
                            omega
                          | have ha : a_copyM M p q i j n = (1, (-2)) := by
                              unfold a_copyM
                              repeat first | rw [if_pos (by omega)] | rw [if_neg (by omega)]
                            rw [ha]
                            exact ⟨rfl, Or.inl ⟨by decide, rfl⟩⟩
                      · refine ⟨p.toNat, it_nn (x := p) (by omega), (show p.toNat < 8 by omega), ?_⟩
                        refine br_gt (a := n) (b := M.1 87 p.toNat) (by omega) (by omega) (fun q23 => ?_) (fun q23 => ?_)
                        · refine aw_149_181 ?_
                          refine ⟨1, 0, by first | decide | omega, by first | decide | omega, en_Ct_eq (R_refM (-2) (by omega) M) ?_⟩
                          first
                            | exfalso
                              omega
                            | have ha : a_copyM M p q i j n = (1, (-2)) := by
                                unfold a_copyM
                                repeat first | rw [if_pos (by omega)] | rw [if_neg (by omega)]
                              rw [ha]
                              exact ⟨rfl, Or.inl ⟨by decide, rfl⟩⟩
                        · refine ⟨q.toNat, it_nn (x := q) (by omega), (show q.toNat < 8 by omega), ?_⟩
                          refine br_gt (a := n) (b := M.1 87 q.toNat) (by omega) (by omega) (fun q24 => ?_) (fun q24 => ?_)
                          · refine aw_149_181 ?_
                            refine ⟨1, 0, by first | decide | omega, by first | decide | omega, en_Ct_eq (R_refM (-2) (by omega) M) ?_⟩
                            first
                              | exfalso
                                omega
                              | have ha : a_copyM M p q i j n = (1, (-2)) := by
                                  unfold a_copyM
                                  repeat first | rw [if_pos (by omega)] | rw [if_neg (by omega)]
                                rw [ha]
                                exact ⟨rfl, Or.inl ⟨by decide, rfl⟩⟩
                          · refine ⟨p.toNat, it_nn (x := p) (by omega), (show p.toNat < 8 by omega), ?_⟩
                            refine br_gt (a := i) (b := (M.1 87 p.toNat) - n) (by omega) (by omega) (fun q25 => ?_) (fun q25 => ?_)
                            · refine aw_149_181 ?_
                              refine ⟨1, 0, by first | decide | omega, by first | decide | omega, en_Ct_eq (R_refM (-2) (by omega) M) ?_⟩
                              first
                                | exfalso
                                  omega
                                | have ha : a_copyM M p q i j n = (1, (-2)) := by
                                    unfold a_copyM
                                    repeat first | rw [if_pos (by omega)] | rw [if_neg (by omega)]
                                  rw [ha]
                                  exact ⟨rfl, Or.inl ⟨by decide, rfl⟩⟩
                            · refine ⟨q.toNat, it_nn (x := q) (by omega), (show q.toNat < 8 by omega), ?_⟩
                              refine br_le (a := j) (b := (M.1 87 q.toNat) - n) (by omega) (by omega) (fun q26 => ?_) (fun q26 => ?_)
                              · first
                                  | exfalso
                                    omega
                                  | have ha : a_copyM M p q i j n = (0, n) := by
                                      unfold a_copyM
                                      repeat first | rw [if_pos (by omega)] | rw [if_neg (by omega)]
                                    rw [ha]
                                    obtain ⟨p, rfl⟩ := Int.eq_ofNat_of_zero_le (show 0 ≤ p by omega)
                                    obtain ⟨q, rfl⟩ := Int.eq_ofNat_of_zero_le (show 0 ≤ q by omega)
                                    obtain ⟨i, rfl⟩ := Int.eq_ofNat_of_zero_le (show 0 ≤ i by omega)
                                    obtain ⟨j, rfl⟩ := Int.eq_ofNat_of_zero_le (show 0 ≤ j by omega)
                                    obtain ⟨m, rfl⟩ := Int.eq_ofNat_of_zero_le (show 0 ≤ n by omega)
                                    refine aw_149_188 ?_
                                    refine en_AW_M (show M = mvM M p i 0 from prL_0.symm) ?_
                                    refine L_cp1 M p q i j m (by omega) (by omega) (by omega) ?_ m 0 (by omega)
                                    refine aw_149_222 ?_
                                    refine en_AW_M (show mvM M p i m = cpM (mvM M p i m) q j ((mvM M p i m).2 97) 0 from cpM_0.symm) ?_
                                    exact L_cp2 (mvM M p i m) _ rfl p q i j m (by omega) (by omega) (by omega) ⟨rfl, Or.inr ⟨rfl, rfl⟩⟩ m 0 (by omega)
                              · refine aw_149_181 ?_
                                refine ⟨1, 0, by first | decide | omega, by first | decide | omega, en_Ct_eq (R_refM (-2) (by omega) M) ?_⟩
                                first
                                  | exfalso
                                    omega
                                  | have ha : a_copyM M p q i j n = (1, (-2)) := by
                                      unfold a_copyM
                                      repeat first | rw [if_pos (by omega)] | rw [if_neg (by omega)]
                                    rw [ha]
                                    exact ⟨rfl, Or.inl ⟨by decide, rfl⟩⟩
                · refine aw_149_111 ?_
                  refine ⟨1, 0, by first | decide | omega, by first | decide | omega, en_Ct_eq (R_refM (-4) (by omega) M) ?_⟩
                  first
                    | exfalso
                      omega
                    | have ha : a_copyM M p q i j n = (3, (-4)) := by
                        unfold a_copyM
                        repeat first | rw [if_pos (by omega)] | rw [if_neg (by omega)]
                      rw [ha]
                      exact ⟨rfl, Or.inl ⟨by decide, rfl⟩⟩
            · refine ⟨p.toNat, it_nn (x := p) (by omega), (show p.toNat < 8 by omega), ?_⟩
              refine ⟨q.toNat, it_nn (x := q) (by omega), (show q.toNat < 8 by omega), ?_⟩
              refine br_eq (a := M.1 86 p.toNat) (b := M.1 86 q.toNat) (by omega) (by omega) (fun q27 => ?_) (fun q27 => ?_)
              · refine aw_149_93 ?_
                refine ⟨p.toNat, it_nn (x := p) (by omega), (show p.toNat < 8 by omega), ?_⟩
                refine br_eq (a := M.1 85 p.toNat) (b := 0) (by omega) (by omega) (fun q28 => ?_) (fun q28 => ?_)
                · refine aw_149_111 ?_
                  refine ⟨1, 0, by first | decide | omega, by first | decide | omega, en_Ct_eq (R_refM (-4) (by omega) M) ?_⟩
                  first
                    | exfalso
                      omega
                    | have ha : a_copyM M p q i j n = (3, (-4)) := by
                        unfold a_copyM
                        repeat first | rw [if_pos (by omega)] | rw [if_neg (by omega)]
                      rw [ha]
                      exact ⟨rfl, Or.inl ⟨by decide, rfl⟩⟩
                · refine ⟨q.toNat, it_nn (x := q) (by omega), (show q.toNat < 8 by omega), ?_⟩
                  refine br_ne (a := M.1 85 q.toNat) (b := 0) (by omega) (by omega) (fun q29 => ?_) (fun q29 => ?_)
                  · refine aw_149_118 ?_
                    refine br_lt (a := n) (b := 0) (by omega) (by omega) (fun q30 => ?_) (fun q30 => ?_)
                    · refine aw_149_181 ?_
                      refine ⟨1, 0, by first | decide | omega, by first | decide | omega, en_Ct_eq (R_refM (-2) (by omega) M) ?_⟩
                      first
                        | exfalso
                          omega
                        | have ha : a_copyM M p q i j n = (1, (-2)) := by
                            unfold a_copyM
                            repeat first | rw [if_pos (by omega)] | rw [if_neg (by omega)]
                          rw [ha]
                          exact ⟨rfl, Or.inl ⟨by decide, rfl⟩⟩
                    · refine br_lt (a := i) (b := 0) (by omega) (by omega) (fun q31 => ?_) (fun q31 => ?_)
                      · refine aw_149_181 ?_
                        refine ⟨1, 0, by first | decide | omega, by first | decide | omega, en_Ct_eq (R_refM (-2) (by omega) M) ?_⟩
                        first
                          | exfalso
                            omega
                          | have ha : a_copyM M p q i j n = (1, (-2)) := by
                              unfold a_copyM
                              repeat first | rw [if_pos (by omega)] | rw [if_neg (by omega)]
                            rw [ha]
                            exact ⟨rfl, Or.inl ⟨by decide, rfl⟩⟩
                      · refine br_lt (a := j) (b := 0) (by omega) (by omega) (fun q32 => ?_) (fun q32 => ?_)
                        · refine aw_149_181 ?_
                          refine ⟨1, 0, by first | decide | omega, by first | decide | omega, en_Ct_eq (R_refM (-2) (by omega) M) ?_⟩
                          first
                            | exfalso
                              omega
                            | have ha : a_copyM M p q i j n = (1, (-2)) := by
                                unfold a_copyM
                                repeat first | rw [if_pos (by omega)] | rw [if_neg (by omega)]
                              rw [ha]
                              exact ⟨rfl, Or.inl ⟨by decide, rfl⟩⟩
                        · refine ⟨p.toNat, it_nn (x := p) (by omega), (show p.toNat < 8 by omega), ?_⟩
                          refine br_gt (a := n) (b := M.1 87 p.toNat) (by omega) (by omega) (fun q33 => ?_) (fun q33 => ?_)
                          · refine aw_149_181 ?_
                            refine ⟨1, 0, by first | decide | omega, by first | decide | omega, en_Ct_eq (R_refM (-2) (by omega) M) ?_⟩
                            first
                              | exfalso
                                omega
                              | have ha : a_copyM M p q i j n = (1, (-2)) := by
                                  unfold a_copyM
                                  repeat first | rw [if_pos (by omega)] | rw [if_neg (by omega)]
                                rw [ha]
                                exact ⟨rfl, Or.inl ⟨by decide, rfl⟩⟩
                          · refine ⟨q.toNat, it_nn (x := q) (by omega), (show q.toNat < 8 by omega), ?_⟩
                            refine br_gt (a := n) (b := M.1 87 q.toNat) (by omega) (by omega) (fun q34 => ?_) (fun q34 => ?_)
                            · refine aw_149_181 ?_
                              refine ⟨1, 0, by first | decide | omega, by first | decide | omega, en_Ct_eq (R_refM (-2) (by omega) M) ?_⟩
                              first
                                | exfalso
                                  omega
                                | have ha : a_copyM M p q i j n = (1, (-2)) := by
                                    unfold a_copyM
                                    repeat first | rw [if_pos (by omega)] | rw [if_neg (by omega)]
                                  rw [ha]
                                  exact ⟨rfl, Or.inl ⟨by decide, rfl⟩⟩
                            · refine ⟨p.toNat, it_nn (x := p) (by omega), (show p.toNat < 8 by omega), ?_⟩
                              refine br_gt (a := i) (b := (M.1 87 p.toNat) - n) (by omega) (by omega) (fun q35 => ?_) (fun q35 => ?_)
                              · refine aw_149_181 ?_
                                refine ⟨1, 0, by first | decide | omega, by first | decide | omega, en_Ct_eq (R_refM (-2) (by omega) M) ?_⟩
                                first
                                  | exfalso
                                    omega
                                  | have ha : a_copyM M p q i j n = (1, (-2)) := by
                                      unfold a_copyM
                                      repeat first | rw [if_pos (by omega)] | rw [if_neg (by omega)]
                                    rw [ha]
                                    exact ⟨rfl, Or.inl ⟨by decide, rfl⟩⟩
                              · refine ⟨q.toNat, it_nn (x := q) (by omega), (show q.toNat < 8 by omega), ?_⟩
                                refine br_le (a := j) (b := (M.1 87 q.toNat) - n) (by omega) (by omega) (fun q36 => ?_) (fun q36 => ?_)
                                · first
                                    | exfalso
                                      omega
                                    | have ha : a_copyM M p q i j n = (0, n) := by
                                        unfold a_copyM
                                        repeat first | rw [if_pos (by omega)] | rw [if_neg (by omega)]
                                      rw [ha]
                                      obtain ⟨p, rfl⟩ := Int.eq_ofNat_of_zero_le (show 0 ≤ p by omega)
                                      obtain ⟨q, rfl⟩ := Int.eq_ofNat_of_zero_le (show 0 ≤ q by omega)
                                      obtain ⟨i, rfl⟩ := Int.eq_ofNat_of_zero_le (show 0 ≤ i by omega)
                                      obtain ⟨j, rfl⟩ := Int.eq_ofNat_of_zero_le (show 0 ≤ j by omega)
                                      obtain ⟨m, rfl⟩ := Int.eq_ofNat_of_zero_le (show 0 ≤ n by omega)
                                      refine aw_149_188 ?_
                                      refine en_AW_M (show M = mvM M p i 0 from prL_0.symm) ?_
                                      refine L_cp1 M p q i j m (by omega) (by omega) (by omega) ?_ m 0 (by omega)
                                      refine aw_149_222 ?_
                                      refine en_AW_M (show mvM M p i m = cpM (mvM M p i m) q j ((mvM M p i m).2 97) 0 from cpM_0.symm) ?_
                                      exact L_cp2 (mvM M p i m) _ rfl p q i j m (by omega) (by omega) (by omega) ⟨rfl, Or.inr ⟨rfl, rfl⟩⟩ m 0 (by omega)
                                · refine aw_149_181 ?_
                                  refine ⟨1, 0, by first | decide | omega, by first | decide | omega, en_Ct_eq (R_refM (-2) (by omega) M) ?_⟩
                                  first
                                    | exfalso
                                      omega
                                    | have ha : a_copyM M p q i j n = (1, (-2)) := by
                                        unfold a_copyM
                                        repeat first | rw [if_pos (by omega)] | rw [if_neg (by omega)]
                                      rw [ha]
                                      exact ⟨rfl, Or.inl ⟨by decide, rfl⟩⟩
                  · refine aw_149_111 ?_
                    refine ⟨1, 0, by first | decide | omega, by first | decide | omega, en_Ct_eq (R_refM (-4) (by omega) M) ?_⟩
                    first
                      | exfalso
                        omega
                      | have ha : a_copyM M p q i j n = (3, (-4)) := by
                          unfold a_copyM
                          repeat first | rw [if_pos (by omega)] | rw [if_neg (by omega)]
                        rw [ha]
                        exact ⟨rfl, Or.inl ⟨by decide, rfl⟩⟩
              · refine aw_149_86 ?_
                refine ⟨1, 0, by first | decide | omega, by first | decide | omega, en_Ct_eq (R_refM (-3) (by omega) M) ?_⟩
                first
                  | exfalso
                    omega
                  | have ha : a_copyM M p q i j n = (2, (-3)) := by
                      unfold a_copyM
                      repeat first | rw [if_pos (by omega)] | rw [if_neg (by omega)]
                    rw [ha]
                    exact ⟨rfl, Or.inl ⟨by decide, rfl⟩⟩
    · refine ⟨1, 0, by first | decide | omega, by first | decide | omega, en_Ct_f (R_in (en_wr q) 0 7 q 0 7 (wl_wr ⟨by omega, by omega⟩) (wl_of ⟨by omega, by omega⟩) (wl_of ⟨by omega, by omega⟩) _) c3 ?_⟩
      refine br_ne_n (by decide) (by decide) (by decide) ?_
      refine aw_149_24 ?_
      refine ⟨1, 0, by first | decide | omega, by first | decide | omega, en_Ct_eq (R_refM (-2) (by omega) M) ?_⟩
      first
        | exfalso
          omega
        | have ha : a_copyM M p q i j n = (1, (-2)) := by
            unfold a_copyM
            repeat first | rw [if_pos (by omega)] | rw [if_neg (by omega)]
          rw [ha]
          exact ⟨rfl, Or.inl ⟨by decide, rfl⟩⟩
  · refine ⟨1, 0, by first | decide | omega, by first | decide | omega, en_Ct_f (R_in (en_wr p) 0 7 p 0 7 (wl_wr ⟨by omega, by omega⟩) (wl_of ⟨by omega, by omega⟩) (wl_of ⟨by omega, by omega⟩) _) c1 ?_⟩
    refine br_eq_y (by decide) (by decide) (by decide) ?_
    refine aw_149_24 ?_
    refine ⟨1, 0, by first | decide | omega, by first | decide | omega, en_Ct_eq (R_refM (-2) (by omega) M) ?_⟩
    first
      | exfalso
        omega
      | have ha : a_copyM M p q i j n = (1, (-2)) := by
          unfold a_copyM
          repeat first | rw [if_pos (by omega)] | rw [if_neg (by omega)]
        rw [ha]
        exact ⟨rfl, Or.inl ⟨by decide, rfl⟩⟩
theorem a_copy_eq {M M1 : Mm} (h : cS M) (h84 : ∀ a, 84 ≤ a → M1.1 a = M.1 a) (p q i j n : Int) : a_copyM M1 p q i j n = a_copy M p q i j n := by
  unfold a_copyM a_copy
  rw [h84 85 (by decide), h84 86 (by decide), h84 87 (by decide)]
  by_cases hs : (0 ≤ p ∧ p ≤ 7) ∧ (0 ≤ q ∧ q ≤ 7)
  · have key : ∀ v k, tPair M p q = v → v ≠ 0 → (-1 - v).toNat = k → (if tPair M p q = 0 then (if 0 ≤ n ∧ (0 ≤ i ∧ i ≤ M.1 (68 + 2 * p.toNat) 1 - n) ∧ (0 ≤ j ∧ j ≤ M.1 (68 + 2 * q.toNat) 1 - n) then ((0 : Nat), n) else (1, -2)) else ((-1 - tPair M p q).toNat, tPair M p q)) = (k, v) := by
      intro v k h1 h2 h3
      rw [h1, if_neg h2, h3]
    rw [if_pos hs]
    rcases sMk h (k := p.toNat) (by omega) with y | y | y <;> rcases sMk h (k := q.toNat) (by omega) with z | z | z
    · rw [key (-4) 3 (by unfold tPair; rw [if_pos hs, if_neg (by omega), if_neg (by omega)]) (by decide) rfl, if_neg (by omega), if_pos (by omega)]
    · rw [key (-4) 3 (by unfold tPair; rw [if_pos hs, if_neg (by omega), if_neg (by omega)]) (by decide) rfl, if_neg (by omega), if_pos (by omega)]
    · rw [key (-3) 2 (by unfold tPair; rw [if_pos hs, if_pos (by omega)]) (by decide) rfl, if_pos (by omega)]
    · rw [key (-4) 3 (by unfold tPair; rw [if_pos hs, if_neg (by omega), if_neg (by omega)]) (by decide) rfl, if_neg (by omega), if_pos (by omega)]
    · obtain ⟨y1, y2, y3, y4, y5⟩ := y
      obtain ⟨z1, z2, z3, z4, z5⟩ := z
      rw [y3, z3, y5, z5]
      by_cases he : M.1 (68 + 2 * p.toNat) 0 = M.1 (68 + 2 * q.toNat) 0
      · have t : tPair M p q = 0 := by unfold tPair; rw [if_pos hs, if_neg (by omega), if_pos (by omega), if_pos he]
        rw [if_neg (by omega), if_neg (by omega), if_pos t]
        by_cases hh : 0 ≤ n ∧ (0 ≤ i ∧ i ≤ M.1 (68 + 2 * p.toNat) 1 - n) ∧ (0 ≤ j ∧ j ≤ M.1 (68 + 2 * q.toNat) 1 - n)
        · rw [if_pos hh, if_pos (by omega)]
        · rw [if_neg hh, if_neg (by omega)]
      · rw [key (-3) 2 (by unfold tPair; rw [if_pos hs, if_neg (by omega), if_pos (by omega), if_neg he]) (by decide) rfl, if_pos (by omega)]
    · rw [key (-3) 2 (by unfold tPair; rw [if_pos hs, if_pos (by omega)]) (by decide) rfl, if_pos (by omega)]
    · rw [key (-3) 2 (by unfold tPair; rw [if_pos hs, if_pos (by omega)]) (by decide) rfl, if_pos (by omega)]
    · rw [key (-3) 2 (by unfold tPair; rw [if_pos hs, if_pos (by omega)]) (by decide) rfl, if_pos (by omega)]
    · rw [key (-3) 2 (by unfold tPair; rw [if_pos hs, if_pos (by omega)]) (by decide) rfl, if_pos (by omega)]
  · have t : tPair M p q = -2 := by unfold tPair; rw [if_neg hs]
    rw [if_neg hs, t, if_neg (by decide)]
    rfl
theorem cpM_at {N : Mm} {k j n t : Nat} {f : Nat → Int} : (cpM N k j f n).2 (89 + 1 * k) t = if j ≤ t ∧ t < j + n then f (t - j) else N.2 (89 + 1 * k) t := by simp [cpM]
theorem cpM_ne {N : Mm} {k j n b : Nat} {f : Nat → Int} (h : b ≠ 89 + 1 * k) : (cpM N k j f n).2 b = N.2 b := by simp only [cpM]; rw [if_neg h]
theorem mvM_97 {N : Mm} {l i n u : Nat} (h : u < n) : (mvM N l i n).2 97 u = N.2 (89 + 1 * l) (i + u) := by simp [mvM, prL, h]
theorem mvM_ne {N : Mm} {l i n b : Nat} (h : b ≠ 97) : (mvM N l i n).2 b = N.2 b := by simp only [mvM, prL]; rw [if_neg h]
theorem cL_at {N : Mm} {a c sp dp n t : Nat} : (en_cL N a c sp dp n).2 c t = if dp ≤ t ∧ t < dp + n then N.2 a (sp + (t - dp)) else N.2 c t := by simp [en_cL, va_cpy]
theorem cL_ne {N : Mm} {a c sp dp n b : Nat} (h : b ≠ c) : (en_cL N a c sp dp n).2 b = N.2 b := by simp only [en_cL]; rw [if_neg h]
theorem S_copy {p q i j n : Int} (hp : -2147483648 ≤ p ∧ p < 2147483648) (hq : -2147483648 ≤ q ∧ q < 2147483648) (hi : -2147483648 ≤ i ∧ i < 2147483648) (hj : -2147483648 ≤ j ∧ j < 2147483648) (hn : -2147483648 ≤ n ∧ n < 2147483648) : sameC 70 149 [.inl p, .inl q, .inl i, .inl j, .inl n] := by
  intro M hc
  have hS := hc.2.2.2.2
  have hcd : (a_copy M p q i j n).1 = 0 → ((0 ≤ p ∧ p ≤ 7) ∧ (0 ≤ q ∧ q ≤ 7)) ∧ ((0 ≤ M.1 (68 + 2 * p.toNat) 0 ∧ M.1 (68 + 2 * p.toNat) 0 ≤ 4) ∧ (0 ≤ M.1 (68 + 2 * q.toNat) 0 ∧ M.1 (68 + 2 * q.toNat) 0 ≤ 4)) ∧ 0 ≤ n ∧ (0 ≤ i ∧ i ≤ M.1 (68 + 2 * p.toNat) 1 - n) ∧ (0 ≤ j ∧ j ≤ M.1 (68 + 2 * q.toNat) 1 - n) := by
    intro h0
    unfold a_copy at h0
    rcases tPair_c M p q with tv | tv | tv | ⟨tv, t1, t2, t3⟩
    · rw [tv] at h0; cases h0
    · rw [tv] at h0; cases h0
    · rw [tv] at h0; cases h0
    · rw [tv, if_pos rfl] at h0
      split at h0
      · exact ⟨t1, t2, ‹_›⟩
      · cases h0
  refine same_sh (hx := 9) (hm := 9) (k := q.toNat) (f := a_copy M p q i j n) (X := fun M => en_cL M (68 + 2 * p.toNat + 1) (68 + 2 * q.toNat + 1) i.toNat j.toNat n.toNat) (Y := fun M => cpM (mvM M p.toNat i.toNat n.toNat) q.toNat j.toNat ((mvM M p.toNat i.toNat n.toNat).2 97) n.toNat) hc (by decide) (by decide) (fun h => by have := hcd h; omega) ?_ (R_copyX M hS p q i j n hp hq hi hj hn) (fun _ a ha => rfl) (fun _ a ha => by simp [en_cL, ha]) (fun M1 h84 h84' => ?_) (fun M1 a _ _ _ _ => rfl) (fun M1 a i _ => rfl) (fun M1 a z1 z2 => ?_) (fun h => ?_)
  · unfold a_copy
    rcases tPair_c M p q with tv | tv | tv | ⟨tv, t1, t2, t3⟩
    · rw [tv]; exact Nat.le_of_ble_eq_true rfl
    · rw [tv]; exact Nat.le_of_ble_eq_true rfl
    · rw [tv]; exact Nat.le_of_ble_eq_true rfl
    · rw [tv, if_pos rfl]
      split <;> exact Nat.le_of_ble_eq_true rfl
  · have := R_copyM M1 (fun k hk => by rw [h84 85 (by decide)]; exact sh_Mo hS hk) (fun k hk h1 => by rw [h84 85 (by decide)] at h1; rw [h84 86 (by decide), h84 87 (by decide)]; exact sh_M2 hS hk h1) p q i j n hp hq hi hj hn
    rw [a_copy_eq hS h84] at this
    exact this
  · show (if a = 89 + 1 * q.toNat then _ else (if a = 97 then _ else M1.2 a)) = M1.2 a
    rw [if_neg z1, if_neg (by omega)]
  · have hcd := hcd h
    have hk8 : q.toNat < 8 := by omega
    have hp8 : p.toNat < 8 := by omega
    generalize q.toNat = k at *
    generalize p.toNat = l at *
    have hkk := hS k hk8
    have hll := hS l hp8
    rcases hkk with z | z | z
    · omega
    · obtain ⟨z1, z2, z3, z4, z5, z6⟩ := z
      rcases hll with y | y | y
      · omega
      · obtain ⟨y1, y2, y3, y4, y5, y6⟩ := y
        refine Or.inr (Or.inl ⟨z1, z2, z3, z4, z5, fun t ht => ?_⟩)
        have e4 : ¬ 68 + 2 * k + 1 = 89 + 1 * k := by omega
        have e5 : ¬ 68 + 2 * k + 1 = 97 := by omega
        have d1 : (cpM (mvM (en_cL M (68 + 2 * l + 1) (68 + 2 * k + 1) i.toNat j.toNat n.toNat) l i.toNat n.toNat) k j.toNat ((mvM (en_cL M (68 + 2 * l + 1) (68 + 2 * k + 1) i.toNat j.toNat n.toNat) l i.toNat n.toNat).2 97) n.toNat).2 (68 + 2 * k + 1) t = if j.toNat ≤ t ∧ t < j.toNat + n.toNat then M.2 (68 + 2 * l + 1) (i.toNat + (t - j.toNat)) else M.2 (68 + 2 * k + 1) t := by
          rw [cpM_ne e4, mvM_ne e5, cL_at]
        have d2 : (cpM (mvM (en_cL M (68 + 2 * l + 1) (68 + 2 * k + 1) i.toNat j.toNat n.toNat) l i.toNat n.toNat) k j.toNat ((mvM (en_cL M (68 + 2 * l + 1) (68 + 2 * k + 1) i.toNat j.toNat n.toNat) l i.toNat n.toNat).2 97) n.toNat).2 (89 + 1 * k) t = if j.toNat ≤ t ∧ t < j.toNat + n.toNat then M.2 (89 + 1 * l) (i.toNat + (t - j.toNat)) else M.2 (89 + 1 * k) t := by
          rw [cpM_at]
          by_cases hin : j.toNat ≤ t ∧ t < j.toNat + n.toNat
          · rw [if_pos hin, if_pos hin, mvM_97 (by omega), cL_ne (by omega)]
          · rw [if_neg hin, if_neg hin, mvM_ne (by omega), cL_ne (by omega)]
        show (cpM (mvM (en_cL M (68 + 2 * l + 1) (68 + 2 * k + 1) i.toNat j.toNat n.toNat) l i.toNat n.toNat) k j.toNat ((mvM (en_cL M (68 + 2 * l + 1) (68 + 2 * k + 1) i.toNat j.toNat n.toNat) l i.toNat n.toNat).2 97) n.toNat).2 (68 + 2 * k + 1) t = (cpM (mvM (en_cL M (68 + 2 * l + 1) (68 + 2 * k + 1) i.toNat j.toNat n.toNat) l i.toNat n.toNat) k j.toNat ((mvM (en_cL M (68 + 2 * l + 1) (68 + 2 * k + 1) i.toNat j.toNat n.toNat) l i.toNat n.toNat).2 97) n.toNat).2 (89 + 1 * k) t ∧ _ ≤ (cpM (mvM (en_cL M (68 + 2 * l + 1) (68 + 2 * k + 1) i.toNat j.toNat n.toNat) l i.toNat n.toNat) k j.toNat ((mvM (en_cL M (68 + 2 * l + 1) (68 + 2 * k + 1) i.toNat j.toNat n.toNat) l i.toNat n.toNat).2 97) n.toNat).2 (68 + 2 * k + 1) t ∧ (cpM (mvM (en_cL M (68 + 2 * l + 1) (68 + 2 * k + 1) i.toNat j.toNat n.toNat) l i.toNat n.toNat) k j.toNat ((mvM (en_cL M (68 + 2 * l + 1) (68 + 2 * k + 1) i.toNat j.toNat n.toNat) l i.toNat n.toNat).2 97) n.toNat).2 (68 + 2 * k + 1) t < _
        rw [d1, d2]
        by_cases hin : j.toNat ≤ t ∧ t < j.toNat + n.toNat
        · rw [if_pos hin, if_pos hin]
          exact y6 (i.toNat + (t - j.toNat)) (by omega)
        · rw [if_neg hin, if_neg hin]
          exact z6 t ht
      · have := y.2.1
        omega
    · have := z.2.1
      omega
