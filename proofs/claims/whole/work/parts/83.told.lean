/-! told sheets -/
abbrev s_mf (E : Ev) (p : Nat) (f : Nat → Int) (m : Nat) : Prop := (0 ≤ f m ∧ f m < E.1 0 1) ∧ s_can E p (f m).toNat = true ∧ ∀ k, k < m → E.1 4 (f k).toNat ≠ E.1 4 (f m).toNat
def s_wi (E : Ev) (p : Nat) (f : Nat → Int) : Nat → Nat → Int
  | 0, _ => -1
  | n + 1, i => if s_mf E p f i then s_wi E p f n (i + 1) else (i : Int)
theorem fw_wi {E : Ev} (hg : s_ok E) {p : Nat} {f : Nat → Int} : ∀ n i tk, (∀ c, tk.testBit c = true ↔ ∃ k, k < i ∧ (E.1 4 (f k).toNat).toNat = c) → (∀ k, k < i → 0 ≤ f k ∧ f k < E.1 0 1) → s_fw E p f n i tk = s_wi E p f n i
  | 0, _, _, _, _ => rfl
  | n + 1, i, tk, ht, hr => by
    have hcol : ∀ w : Nat, (w : Int) < E.1 0 1 → 0 ≤ E.1 4 w := fun w hw => (hg.2.1 w hw).2.2.1.1
    unfold s_fw s_wi
    by_cases h1 : f i < 0
    · rw [if_pos h1, if_neg (fun z => by have := z.1.1; omega)]
    · rw [if_neg h1]
      by_cases h2 : E.1 0 1 ≤ f i
      · rw [if_pos h2, if_neg (fun z => by have := z.1.2; omega)]
      · rw [if_neg h2]
        by_cases h3 : s_can E p (f i).toNat = true
        · rw [if_pos h3]
          by_cases h4 : tk.testBit (E.1 4 (f i).toNat).toNat = true
          · rw [if_pos h4, if_neg]
            intro z
            obtain ⟨k, k1, k2⟩ := (ht _).mp h4
            have a1 := hr k k1
            have a2 := hcol (f k).toNat (by omega)
            have a3 := hcol (f i).toNat (by omega)
            exact z.2.2 k k1 (by omega)
          · rw [if_neg h4, if_pos ⟨⟨by omega, by omega⟩, h3, fun k k1 z => h4 ((ht _).mpr ⟨k, k1, by rw [z]⟩)⟩]
            refine fw_wi hg n (i + 1) _ (fun c => ?_) (fun k hk => ?_)
            · rw [or_bit, Bool.or_eq_true, ht, decide_eq_true_eq]
              constructor
              · rintro (⟨k, k1, k2⟩ | z)
                · exact ⟨k, by omega, k2⟩
                · exact ⟨i, by omega, z⟩
              · rintro ⟨k, k1, k2⟩
                by_cases hk : k = i
                · subst hk; exact Or.inr k2
                · exact Or.inl ⟨k, by omega, k2⟩
            · by_cases hki : k = i
              · subst hki; omega
              · exact hr k (by omega)
        · rw [if_neg h3, if_neg (fun z => h3 z.2.1)]
theorem fw_eq {E : Ev} (hg : s_ok E) {p n : Nat} {f : Nat → Int} : s_fw E p f n 0 0 = s_wi E p f n 0 := fw_wi hg n 0 0 (fun c => by simp) (fun k hk => absurd hk (Nat.not_lt_zero k))
theorem wi_ok {E : Ev} {p : Nat} {f : Nat → Int} : ∀ n i, s_wi E p f n i = -1 → ∀ k, i ≤ k → k < i + n → s_mf E p f k
  | 0, _, _, k, h1, h2 => by omega
  | n + 1, i, h, k, h1, h2 => by
    unfold s_wi at h
    by_cases hm : s_mf E p f i
    · rw [if_pos hm] at h
      by_cases hk : k = i
      · subst hk; exact hm
      · exact wi_ok n (i + 1) h k (by omega) (by omega)
    · rw [if_neg hm] at h
      omega
theorem wi_b {E : Ev} {p : Nat} {f : Nat → Int} : ∀ n i, -1 ≤ s_wi E p f n i ∧ s_wi E p f n i < ((i + n : Nat) : Int)
  | 0, _ => by simp only [s_wi]; omega
  | n + 1, i => by
    have := wi_b (E := E) (p := p) (f := f) n (i + 1)
    unfold s_wi
    split <;> omega
def tTold (M : Mm) (E : Ev) (s n x : Int) : Int := if (0 ≤ s ∧ s ≤ 7) ∧ (0 ≤ n ∧ n ≤ 5) ∧ (0 ≤ x ∧ x < E.1 0 2) then (if M.1 (68 + 2 * s.toNat) 0 = 10 then -3 else if 0 ≤ M.1 (68 + 2 * s.toNat) 0 ∧ M.1 (68 + 2 * s.toNat) 0 ≤ 4 then (if n ≤ M.1 (68 + 2 * s.toNat) 1 then 0 else -2) else -4) else -2
theorem tTold_c (M : Mm) (E : Ev) (s n x : Int) : tTold M E s n x = -2 ∨ tTold M E s n x = -3 ∨ tTold M E s n x = -4 ∨ (tTold M E s n x = 0 ∧ (0 ≤ s ∧ s ≤ 7) ∧ (0 ≤ n ∧ n ≤ 5) ∧ (0 ≤ x ∧ x < E.1 0 2) ∧ (0 ≤ M.1 (68 + 2 * s.toNat) 0 ∧ M.1 (68 + 2 * s.toNat) 0 ≤ 4) ∧ n ≤ M.1 (68 + 2 * s.toNat) 1) := by
  unfold tTold
  split
  · split
    · exact Or.inr (Or.inl rfl)
    · split
      · split
        · exact Or.inr (Or.inr (Or.inr ⟨rfl, And.left ‹_›, And.left (And.right ‹_›), And.right (And.right ‹_›), ‹_›, ‹_›⟩))
        · exact Or.inl rfl
      · exact Or.inr (Or.inr (Or.inl rfl))
  · exact Or.inl rfl
theorem R_tTold (E : Ev) (M : Mm) (hI : isE M 1 E) (hg : s_ok E) (hS : cS M) (s n x : Int) (hs : -2147483648 ≤ s ∧ s < 2147483648) (hn : -2147483648 ≤ n ∧ n < 2147483648) (hx : -2147483648 ≤ x ∧ x < 2147483648) : en_Ct 4 0 128 [.inr (.inr (1, 5, 0)), .inl s, .inl n, .inl x] M (fun r M' => r = some (.inl (tTold M E s n x)) ∧ M' = M) := by
  obtain ⟨n0, n1, n2, a0, a1, a2, a3, a4, a5, a6, a7⟩ := hg.1
  have r0 : M.1 1 0 = E.1 0 0 := r0_I hI 0
  have r1 : M.1 1 1 = E.1 0 1 := r0_I hI 1
  have r2 : M.1 1 2 = E.1 0 2 := r0_I hI 2
  have hA : (0 ≤ s ∧ s ≤ 7) → (-1 ≤ M.1 (68 + 2 * s.toNat) 0 ∧ M.1 (68 + 2 * s.toNat) 0 ≤ 10) := fun z => sh_X hS (by omega)
  have hA2 : (0 ≤ s ∧ s ≤ 7) → (0 ≤ M.1 (68 + 2 * s.toNat) 0 ∧ M.1 (68 + 2 * s.toNat) 0 ≤ 4) → (0 ≤ M.1 (68 + 2 * s.toNat) 1 ∧ M.1 (68 + 2 * s.toNat) 1 ≤ 40) := fun z z2 => sh_X2 hS (by omega) z2
  refine ct_128 rfl ?_
  refine aw_128_0 ?_
  by_cases c1 : 0 ≤ s ∧ s ≤ 7
  · refine ⟨2, 0, by first | decide | omega, by first | decide | omega, en_Ct_t (R_isShelf s (by omega) _) c1 ?_⟩
    refine br_eq_n (by decide) (by decide) (by decide) ?_
    by_cases c3 : 0 ≤ n ∧ n ≤ 5
    · refine ⟨1, 0, by first | decide | omega, by first | decide | omega, en_Ct_t (R_within n 0 5 (by omega) (by omega) (by omega) _) c3 ?_⟩
      refine br_eq_n (by decide) (by decide) (by decide) ?_
      by_cases c5 : 0 ≤ x ∧ x < E.1 0 2
      · refine ⟨2, 0, by first | decide | omega, by first | decide | omega, en_Ct_t (X_isPerson (M := M) (e := 1) (E := E) hI hg (x := x) (by omega)) c5 ?_⟩
        refine br_ne_y (by decide) (by decide) (by decide) ?_
        refine aw_128_30 ?_
        rcases tRow_c M s with ⟨tv, t1⟩ | ⟨tv, t1, t2⟩ | ⟨tv, t1, t2, t3⟩ | ⟨tv, t1, t2⟩
        · refine ⟨3, 0, by first | decide | omega, by first | decide | omega, en_Ct_eq (R_tRowv (by omega) hS tv) ?_⟩
          refine br_eq_n (by decide) (by decide) (by decide) ?_
          first
            | exfalso
              omega
            | refine ⟨congrArg (fun z => some (Sum.inl z)) (show ((-2) : Int) = tTold M E s n x from ?_), rfl⟩
              unfold tTold
              repeat first | rw [if_pos (by omega)] | rw [if_neg (by omega)]
        · refine ⟨3, 0, by first | decide | omega, by first | decide | omega, en_Ct_eq (R_tRowv (by omega) hS tv) ?_⟩
          refine br_eq_n (by decide) (by decide) (by decide) ?_
          first
            | exfalso
              omega
            | refine ⟨congrArg (fun z => some (Sum.inl z)) (show ((-3) : Int) = tTold M E s n x from ?_), rfl⟩
              unfold tTold
              repeat first | rw [if_pos (by omega)] | rw [if_neg (by omega)]
        · refine ⟨3, 0, by first | decide | omega, by first | decide | omega, en_Ct_eq (R_tRowv (by omega) hS tv) ?_⟩
          refine br_eq_n (by decide) (by decide) (by decide) ?_
          first
            | exfalso
              omega
            | refine ⟨congrArg (fun z => some (Sum.inl z)) (show ((-4) : Int) = tTold M E s n x from ?_), rfl⟩
              unfold tTold
              repeat first | rw [if_pos (by omega)] | rw [if_neg (by omega)]
        · refine ⟨3, 0, by first | decide | omega, by first | decide | omega, en_Ct_eq (R_tRowv (by omega) hS tv) ?_⟩
          refine br_eq_y (by decide) (by decide) (by decide) ?_
          refine aw_128_45 ?_
          refine ⟨s.toNat, it_nn (x := s) (by omega), (show s.toNat < 8 by omega), ?_⟩
          refine br_gt (a := n) (b := M.1 (68 + 2 * s.toNat) 1) (by omega) (by omega) (fun q11 => ?_) (fun q11 => ?_)
          · refine aw_128_62 ?_
            refine aw_128_64 ?_
            first
              | exfalso
                omega
              | refine ⟨congrArg (fun z => some (Sum.inl z)) (show ((-2) : Int) = tTold M E s n x from ?_), rfl⟩
                unfold tTold
                repeat first | rw [if_pos (by omega)] | rw [if_neg (by omega)]
          · refine aw_128_64 ?_
            first
              | exfalso
                omega
              | refine ⟨congrArg (fun z => some (Sum.inl z)) (show (0 : Int) = tTold M E s n x from ?_), rfl⟩
                unfold tTold
                repeat first | rw [if_pos (by omega)] | rw [if_neg (by omega)]
      · refine ⟨2, 0, by first | decide | omega, by first | decide | omega, en_Ct_f (X_isPerson (M := M) (e := 1) (E := E) hI hg (x := x) (by omega)) c5 ?_⟩
        refine br_ne_n (by decide) (by decide) (by decide) ?_
        refine aw_128_27 ?_
        first
          | exfalso
            omega
          | refine ⟨congrArg (fun z => some (Sum.inl z)) (show ((-2) : Int) = tTold M E s n x from ?_), rfl⟩
            unfold tTold
            repeat first | rw [if_pos (by omega)] | rw [if_neg (by omega)]
    · refine ⟨1, 0, by first | decide | omega, by first | decide | omega, en_Ct_f (R_within n 0 5 (by omega) (by omega) (by omega) _) c3 ?_⟩
      refine br_eq_y (by decide) (by decide) (by decide) ?_
      refine aw_128_27 ?_
      first
        | exfalso
          omega
        | refine ⟨congrArg (fun z => some (Sum.inl z)) (show ((-2) : Int) = tTold M E s n x from ?_), rfl⟩
          unfold tTold
          repeat first | rw [if_pos (by omega)] | rw [if_neg (by omega)]
  · refine ⟨2, 0, by first | decide | omega, by first | decide | omega, en_Ct_f (R_isShelf s (by omega) _) c1 ?_⟩
    refine br_eq_y (by decide) (by decide) (by decide) ?_
    refine aw_128_27 ?_
    first
      | exfalso
        omega
      | refine ⟨congrArg (fun z => some (Sum.inl z)) (show ((-2) : Int) = tTold M E s n x from ?_), rfl⟩
        unfold tTold
        repeat first | rw [if_pos (by omega)] | rw [if_neg (by omega)]
theorem R_tToldv {E : Ev} {M : Mm} (hI : isE M 1 E) (hg : s_ok E) (hS : cS M) {s n x v : Int} (hs : -2147483648 ≤ s ∧ s < 2147483648) (hn : -2147483648 ≤ n ∧ n < 2147483648) (hx : -2147483648 ≤ x ∧ x < 2147483648) (h : tTold M E s n x = v) : en_Ct 4 0 128 [.inr (.inr (1, 5, 0)), .inl s, .inl n, .inl x] M (fun r M' => r = some (.inl v) ∧ M' = M) := h ▸ R_tTold E M hI hg hS s n x hs hn hx
theorem sh_X3 {M : Mm} (h : cS M) {k : Nat} (hk : k < 8) (h0 : 0 ≤ M.1 (68 + 2 * k) 0 ∧ M.1 (68 + 2 * k) 0 ≤ 4) : ∀ i : Nat, i < 40 → -9223372036854775808 ≤ M.2 (68 + 2 * k + 1) i ∧ M.2 (68 + 2 * k + 1) i < 9223372036854775808 := by
  rcases h k hk with z | z | z
  · omega
  · exact fun i hi => (z.2.2.2.2.2 i hi).2
  · have := z.2.1
    omega
theorem tr_fw {M : Mm} {e : Nat} {E : Ev} (h : isE M e E) {p : Nat} {f : Nat → Int} : ∀ n i tk, s_fw (vE M e) p f n i tk = s_fw E p f n i tk
  | 0, _, _ => rfl
  | n + 1, i, tk => by
    simp only [s_fw]
    rw [tr_can h, tr_r h 0 (by decide), tr_r h 4 (by decide), tr_fw h n]
theorem X_fw {M : Mm} {e : Nat} {E : Ev} (h : isE M e E) (hg : s_ok E) {x n : Int} (h0 : 0 ≤ x) (h1 : x < 4) (A L : Nat) (hn0 : 0 ≤ n) (hnL : n ≤ (L : Int)) (hL : L ≤ 40) (hr : ∀ i : Nat, i < n.toNat → -9223372036854775808 ≤ M.2 A i ∧ M.2 A i < 9223372036854775808) : en_Ct 3 0 22 [.inr (.inr (1, 1, e)), .inl x, .inr (.inr (4, L, A)), .inl n] M (fun r M' => r = some (.inl (s_wi E x.toNat (M.2 A) n.toNat 0)) ∧ M' = M) := by
  have := R_fw e M (tr_num h hg.1) (tr_wok h hg.2.1) x.toNat (by omega) A L n.toNat (by omega) hL hr
  rw [show ((x.toNat : Nat) : Int) = x by omega, show ((n.toNat : Nat) : Int) = n by omega, tr_fw h, fw_eq hg] at this
  exact this
def tFit (M : Mm) (E : Ev) (s n x : Int) : Int := if tTold M E s n x = 0 then (if s_wi E x.toNat (M.2 (68 + 2 * s.toNat + 1)) n.toNat 0 = -1 then 0 else -5) else tTold M E s n x
theorem tFit_c (M : Mm) (E : Ev) (s n x : Int) : tFit M E s n x = -2 ∨ tFit M E s n x = -3 ∨ tFit M E s n x = -4 ∨ tFit M E s n x = -5 ∨ (tFit M E s n x = 0 ∧ (0 ≤ s ∧ s ≤ 7) ∧ (0 ≤ n ∧ n ≤ 5) ∧ (0 ≤ x ∧ x < E.1 0 2) ∧ (0 ≤ M.1 (68 + 2 * s.toNat) 0 ∧ M.1 (68 + 2 * s.toNat) 0 ≤ 4) ∧ n ≤ M.1 (68 + 2 * s.toNat) 1 ∧ s_wi E x.toNat (M.2 (68 + 2 * s.toNat + 1)) n.toNat 0 = -1) := by
  unfold tFit
  rcases tTold_c M E s n x with tv | tv | tv | ⟨tv, t1, t2, t3, t4, t5⟩
  · rw [tv]; exact Or.inl (if_neg (by decide))
  · rw [tv]; exact Or.inr (Or.inl (if_neg (by decide)))
  · rw [tv]; exact Or.inr (Or.inr (Or.inl (if_neg (by decide))))
  · rw [tv, if_pos rfl]
    by_cases h : s_wi E x.toNat (M.2 (68 + 2 * s.toNat + 1)) n.toNat 0 = -1
    · exact Or.inr (Or.inr (Or.inr (Or.inr ⟨if_pos h, t1, t2, t3, t4, t5, h⟩)))
    · exact Or.inr (Or.inr (Or.inr (Or.inl (if_neg h))))
theorem R_tFit (E : Ev) (M : Mm) (hI : isE M 1 E) (hg : s_ok E) (hS : cS M) (s n x : Int) (hs : -2147483648 ≤ s ∧ s < 2147483648) (hn : -2147483648 ≤ n ∧ n < 2147483648) (hx : -2147483648 ≤ x ∧ x < 2147483648) : en_Ct 5 0 129 [.inr (.inr (1, 5, 0)), .inl s, .inl n, .inl x] M (fun r M' => r = some (.inl (tFit M E s n x)) ∧ M' = M) := by
  obtain ⟨n0, n1, n2, a0, a1, a2, a3, a4, a5, a6, a7⟩ := hg.1
  have r0 : M.1 1 0 = E.1 0 0 := r0_I hI 0
  have r1 : M.1 1 1 = E.1 0 1 := r0_I hI 1
  have r2 : M.1 1 2 = E.1 0 2 := r0_I hI 2
  have hA : (0 ≤ s ∧ s ≤ 7) → (-1 ≤ M.1 (68 + 2 * s.toNat) 0 ∧ M.1 (68 + 2 * s.toNat) 0 ≤ 10) := fun z => sh_X hS (by omega)
  have hA2 : (0 ≤ s ∧ s ≤ 7) → (0 ≤ M.1 (68 + 2 * s.toNat) 0 ∧ M.1 (68 + 2 * s.toNat) 0 ≤ 4) → (0 ≤ M.1 (68 + 2 * s.toNat) 1 ∧ M.1 (68 + 2 * s.toNat) 1 ≤ 40) := fun z z2 => sh_X2 hS (by omega) z2
  have hl : (0 ≤ s ∧ s ≤ 7) → (0 ≤ M.1 (68 + 2 * s.toNat) 0 ∧ M.1 (68 + 2 * s.toNat) 0 ≤ 4) → ∀ i : Nat, i < 40 → -9223372036854775808 ≤ M.2 (68 + 2 * s.toNat + 1) i ∧ M.2 (68 + 2 * s.toNat + 1) i < 9223372036854775808 := fun z z2 => sh_X3 hS (by omega) z2
  refine ct_129 rfl ?_
  refine aw_129_0 ?_
  rcases tTold_c M E s n x with tv | tv | tv | ⟨tv, t1, t2, t3, t4, t5⟩
  · refine ⟨4, 0, by first | decide | omega, by first | decide | omega, en_Ct_eq (R_tToldv hI hg hS hs hn hx tv) ?_⟩
    refine br_eq_n (by decide) (by decide) (by decide) ?_
    refine ⟨congrArg (fun z => some (Sum.inl z)) (show ((-2) : Int) = tFit M E s n x from ?_), rfl⟩
    unfold tFit
    rw [tv]
    rw [if_neg (by decide)]
  · refine ⟨4, 0, by first | decide | omega, by first | decide | omega, en_Ct_eq (R_tToldv hI hg hS hs hn hx tv) ?_⟩
    refine br_eq_n (by decide) (by decide) (by decide) ?_
    refine ⟨congrArg (fun z => some (Sum.inl z)) (show ((-3) : Int) = tFit M E s n x from ?_), rfl⟩
    unfold tFit
    rw [tv]
    rw [if_neg (by decide)]
  · refine ⟨4, 0, by first | decide | omega, by first | decide | omega, en_Ct_eq (R_tToldv hI hg hS hs hn hx tv) ?_⟩
    refine br_eq_n (by decide) (by decide) (by decide) ?_
    refine ⟨congrArg (fun z => some (Sum.inl z)) (show ((-4) : Int) = tFit M E s n x from ?_), rfl⟩
    unfold tFit
    rw [tv]
    rw [if_neg (by decide)]
  · refine ⟨4, 0, by first | decide | omega, by first | decide | omega, en_Ct_eq (R_tToldv hI hg hS hs hn hx tv) ?_⟩
    refine br_eq_y (by decide) (by decide) (by decide) ?_
    refine aw_129_17 ?_
    refine ⟨s.toNat, it_nn (x := s) (by omega), (show s.toNat < 8 by omega), ?_⟩
    refine ⟨3, 0, by first | decide | omega, by first | decide | omega, en_Ct_eq (X_fw (M := M) (e := 1) (E := E) hI hg (x := x) (n := n) (by omega) (by omega) (68 + 2 * s.toNat + 1) 40 (by omega) (by omega) (by omega) (fun i hi => hl (by omega) (by omega) i (by omega))) ?_⟩
    have wb := wi_b (E := E) (p := x.toNat) (f := M.2 (68 + 2 * s.toNat + 1)) n.toNat 0
    refine br_ne (a := s_wi E x.toNat (M.2 (68 + 2 * s.toNat + 1)) n.toNat 0) (b := (-1)) (by omega) (by omega) (fun q5 => ?_) (fun q5 => ?_)
    · refine aw_129_43 ?_
      refine aw_129_45 ?_
      refine ⟨congrArg (fun z => some (Sum.inl z)) (show ((-5) : Int) = tFit M E s n x from ?_), rfl⟩
      unfold tFit
      rw [tv]
      rw [if_pos rfl, if_neg (by omega)]
    · refine aw_129_45 ?_
      refine ⟨congrArg (fun z => some (Sum.inl z)) (show (0 : Int) = tFit M E s n x from ?_), rfl⟩
      unfold tFit
      rw [tv]
      rw [if_pos rfl, if_pos (by omega)]
theorem R_tFitv {E : Ev} {M : Mm} (hI : isE M 1 E) (hg : s_ok E) (hS : cS M) {s n x v : Int} (hs : -2147483648 ≤ s ∧ s < 2147483648) (hn : -2147483648 ≤ n ∧ n < 2147483648) (hx : -2147483648 ≤ x ∧ x < 2147483648) (h : tFit M E s n x = v) : en_Ct 5 0 129 [.inr (.inr (1, 5, 0)), .inl s, .inl n, .inl x] M (fun r M' => r = some (.inl v) ∧ M' = M) := h ▸ R_tFit E M hI hg hS s n x hs hn hx
def a_judge (M : Mm) (E : Ev) (s n x : Int) : Nat × Int := if tTold M E s n x = 0 then (0, s_wi E x.toNat (M.2 (68 + 2 * s.toNat + 1)) n.toNat 0) else ((-1 - tTold M E s n x).toNat, tTold M E s n x)
def s_tk (E : Ev) (f : Nat → Int) : Nat → Int
  | 0 => 0
  | n + 1 => s_tk E f n + s_cost E (f n).toNat
def a_takes (M : Mm) (E : Ev) (s n x : Int) : Nat × Int := if tFit M E s n x = 0 then (0, s_tk E (M.2 (68 + 2 * s.toNat + 1)) n.toNat) else ((-1 - tFit M E s n x).toNat, tFit M E s n x)
def a_sheet (M : Mm) (E : Ev) (s n x : Int) : Nat × Int := if tFit M E s n x = 0 then (0, n) else ((-1 - tFit M E s n x).toNat, tFit M E s n x)
theorem PX_judge (E : Ev) (M : Mm) (hI : isE M 1 E) (hg : s_ok E) (hS : cS M) (s n x : Int) (hs : -2147483648 ≤ s ∧ s < 2147483648) (hn : -2147483648 ≤ n ∧ n < 2147483648) (hx : -2147483648 ≤ x ∧ x < 2147483648) : en_Ct 9 0 103 [.inr (.inr (1, 5, 0)), .inl s, .inl n, .inl x] M (fun r M' => r = some (.inl (a_judge M E s n x).2) ∧ sX (aX M (a_judge M E s n x).1) M') := by
  obtain ⟨n0, n1, n2, a0, a1, a2, a3, a4, a5, a6, a7⟩ := hg.1
  have r0 : M.1 1 0 = E.1 0 0 := r0_I hI 0
  have r1 : M.1 1 1 = E.1 0 1 := r0_I hI 1
  have r2 : M.1 1 2 = E.1 0 2 := r0_I hI 2
  have hA : (0 ≤ s ∧ s ≤ 7) → (-1 ≤ M.1 (68 + 2 * s.toNat) 0 ∧ M.1 (68 + 2 * s.toNat) 0 ≤ 10) := fun z => sh_X hS (by omega)
  have hA2 : (0 ≤ s ∧ s ≤ 7) → (0 ≤ M.1 (68 + 2 * s.toNat) 0 ∧ M.1 (68 + 2 * s.toNat) 0 ≤ 4) → (0 ≤ M.1 (68 + 2 * s.toNat) 1 ∧ M.1 (68 + 2 * s.toNat) 1 ≤ 40) := fun z z2 => sh_X2 hS (by omega) z2
  have hl : (0 ≤ s ∧ s ≤ 7) → (0 ≤ M.1 (68 + 2 * s.toNat) 0 ∧ M.1 (68 + 2 * s.toNat) 0 ≤ 4) → ∀ i : Nat, i < 40 → -9223372036854775808 ≤ M.2 (68 + 2 * s.toNat + 1) i ∧ M.2 (68 + 2 * s.toNat + 1) i < 9223372036854775808 := fun z z2 => sh_X3 hS (by omega) z2
  refine ct_103 rfl ?_
  refine aw_103_0 ?_
  rcases tTold_c M E s n x with tv | tv | tv | ⟨tv, t1, t2, t3, t4, t5⟩
  · refine ⟨4, 0, by first | decide | omega, by first | decide | omega, en_Ct_eq (R_tToldv hI hg hS hs hn hx tv) ?_⟩
    refine br_ne_y (by decide) (by decide) (by decide) ?_
    refine aw_103_35 ?_
    refine ⟨2, 0, by first | decide | omega, by first | decide | omega, en_Ct_eq (R_refX (-2) (by omega) M) ?_⟩
    refine aw_103_41 ?_
    have ha : a_judge M E s n x = (1, (-2)) := by
      unfold a_judge
      rw [tv]
      rfl
    rw [ha]
    exact ⟨rfl, sX_rfl⟩
  · refine ⟨4, 0, by first | decide | omega, by first | decide | omega, en_Ct_eq (R_tToldv hI hg hS hs hn hx tv) ?_⟩
    refine br_ne_y (by decide) (by decide) (by decide) ?_
    refine aw_103_35 ?_
    refine ⟨2, 0, by first | decide | omega, by first | decide | omega, en_Ct_eq (R_refX (-3) (by omega) M) ?_⟩
    refine aw_103_41 ?_
    have ha : a_judge M E s n x = (2, (-3)) := by
      unfold a_judge
      rw [tv]
      rfl
    rw [ha]
    exact ⟨rfl, sX_rfl⟩
  · refine ⟨4, 0, by first | decide | omega, by first | decide | omega, en_Ct_eq (R_tToldv hI hg hS hs hn hx tv) ?_⟩
    refine br_ne_y (by decide) (by decide) (by decide) ?_
    refine aw_103_35 ?_
    refine ⟨2, 0, by first | decide | omega, by first | decide | omega, en_Ct_eq (R_refX (-4) (by omega) M) ?_⟩
    refine aw_103_41 ?_
    have ha : a_judge M E s n x = (3, (-4)) := by
      unfold a_judge
      rw [tv]
      rfl
    rw [ha]
    exact ⟨rfl, sX_rfl⟩
  · refine ⟨4, 0, by first | decide | omega, by first | decide | omega, en_Ct_eq (R_tToldv hI hg hS hs hn hx tv) ?_⟩
    refine br_ne_n (by decide) (by decide) (by decide) ?_
    refine ⟨s.toNat, it_nn (x := s) (by omega), (show s.toNat < 8 by omega), ?_⟩
    refine ⟨3, 0, by first | decide | omega, by first | decide | omega, en_Ct_eq (X_fw (M := M) (e := 1) (E := E) hI hg (x := x) (n := n) (by omega) (by omega) (68 + 2 * s.toNat + 1) 40 (by omega) (by omega) (by omega) (fun i hi => hl (by omega) (by omega) i (by omega))) ?_⟩
    have wb := wi_b (E := E) (p := x.toNat) (f := M.2 (68 + 2 * s.toNat + 1)) n.toNat 0
    refine aw_103_41 ?_
    have ha : a_judge M E s n x = (0, s_wi E x.toNat (M.2 (68 + 2 * s.toNat + 1)) n.toNat 0) := by
      unfold a_judge
      rw [tv]
      rfl
    rw [ha]
    exact ⟨rfl, sX_rfl⟩
theorem L_takesX {post : Option AV → Mm → Prop} (E : Ev) (M : Mm) (hI : isE M 1 E) (hg : s_ok E) (s m : Nat) (hs8 : s < 8) (hm : m ≤ 40) (x : Int) (hw : ∀ k : Nat, k < m → 0 ≤ M.2 (68 + 2 * s + 1) k ∧ M.2 (68 + 2 * s + 1) k < E.1 0 1) (hq : post (some (.inl (s_tk E (M.2 (68 + 2 * s + 1)) m))) M) : ∀ (n : Nat) (i : Nat), (i + n = m) → en_AW 9 0 104 post 27 [some (.inr (.inr (1, 5, 0))), some (.inl ((s : Nat) : Int)), some (.inl ((m : Nat) : Int)), some (.inl x), some (.inl 0), some (.inl (s_tk E (M.2 (68 + 2 * s + 1)) i)), some (.inl ((i : Nat) : Int))] [] M 0 := by
  intro n
  induction n with
  | zero =>
    intro i hi
    refine aw_104_27 ?_
    refine br_ge_y (a := ((i : Nat) : Int)) (b := ((m : Nat) : Int)) (by omega) (by omega) (by omega) ?_
    refine aw_104_64 ?_
    rw [show m = i by omega] at hq
    exact hq
  | succ n ih =>
    intro i hi
    obtain ⟨n0, n1, n2, a0, a1, a2, a3, a4, a5, a6, a7⟩ := hg.1
    have r0 : M.1 1 0 = E.1 0 0 := r0_I hI 0
    have r1 : M.1 1 1 = E.1 0 1 := r0_I hI 1
    have r2 : M.1 1 2 = E.1 0 2 := r0_I hI 2
    have hwi := hw i (by omega)
    refine aw_104_27 ?_
    refine br_ge_n (a := ((i : Nat) : Int)) (b := ((m : Nat) : Int)) (by omega) (by omega) (by omega) ?_
    refine ⟨s, rfl, (show s < 8 by omega), ?_⟩
    refine ⟨i, rfl, (show i < 40 by omega), ?_⟩
    refine ⟨1, 0, by first | decide | omega, by first | decide | omega, en_Ct_eq (W_cost (M := M) (e := 1) (E := E) hI hg (x := (M.2 (68 + 2 * s + 1) i)) (by omega) (by omega)) ?_⟩
    have cb2 := s_cost_b (hg.2.1 ((M.2 (68 + 2 * s + 1) i).toNat) (by omega))
    exact ih (i + 1) (by omega)
theorem PX_takes (E : Ev) (M : Mm) (hI : isE M 1 E) (hg : s_ok E) (hS : cS M) (s n x : Int) (hs : -2147483648 ≤ s ∧ s < 2147483648) (hn : -2147483648 ≤ n ∧ n < 2147483648) (hx : -2147483648 ≤ x ∧ x < 2147483648) : en_Ct 9 0 104 [.inr (.inr (1, 5, 0)), .inl s, .inl n, .inl x] M (fun r M' => r = some (.inl (a_takes M E s n x).2) ∧ sX (aX M (a_takes M E s n x).1) M') := by
  obtain ⟨n0, n1, n2, a0, a1, a2, a3, a4, a5, a6, a7⟩ := hg.1
  have r0 : M.1 1 0 = E.1 0 0 := r0_I hI 0
  have r1 : M.1 1 1 = E.1 0 1 := r0_I hI 1
  have r2 : M.1 1 2 = E.1 0 2 := r0_I hI 2
  have hA : (0 ≤ s ∧ s ≤ 7) → (-1 ≤ M.1 (68 + 2 * s.toNat) 0 ∧ M.1 (68 + 2 * s.toNat) 0 ≤ 10) := fun z => sh_X hS (by omega)
  have hA2 : (0 ≤ s ∧ s ≤ 7) → (0 ≤ M.1 (68 + 2 * s.toNat) 0 ∧ M.1 (68 + 2 * s.toNat) 0 ≤ 4) → (0 ≤ M.1 (68 + 2 * s.toNat) 1 ∧ M.1 (68 + 2 * s.toNat) 1 ≤ 40) := fun z z2 => sh_X2 hS (by omega) z2
  have hl : (0 ≤ s ∧ s ≤ 7) → (0 ≤ M.1 (68 + 2 * s.toNat) 0 ∧ M.1 (68 + 2 * s.toNat) 0 ≤ 4) → ∀ i : Nat, i < 40 → -9223372036854775808 ≤ M.2 (68 + 2 * s.toNat + 1) i ∧ M.2 (68 + 2 * s.toNat + 1) i < 9223372036854775808 := fun z z2 => sh_X3 hS (by omega) z2
  refine ct_104 rfl ?_
  refine aw_104_0 ?_
  rcases tFit_c M E s n x with tv | tv | tv | tv | ⟨tv, t1, t2, t3, t4, t5, t6⟩
  · refine ⟨5, 0, by first | decide | omega, by first | decide | omega, en_Ct_eq (R_tFitv hI hg hS hs hn hx tv) ?_⟩
    refine br_eq_n (by decide) (by decide) (by decide) ?_
    refine ⟨2, 0, by first | decide | omega, by first | decide | omega, en_Ct_eq (R_refX (-2) (by omega) M) ?_⟩
    have ha : a_takes M E s n x = (1, (-2)) := by
      unfold a_takes
      rw [tv]
      rfl
    rw [ha]
    exact ⟨rfl, sX_rfl⟩
  · refine ⟨5, 0, by first | decide | omega, by first | decide | omega, en_Ct_eq (R_tFitv hI hg hS hs hn hx tv) ?_⟩
    refine br_eq_n (by decide) (by decide) (by decide) ?_
    refine ⟨2, 0, by first | decide | omega, by first | decide | omega, en_Ct_eq (R_refX (-3) (by omega) M) ?_⟩
    have ha : a_takes M E s n x = (2, (-3)) := by
      unfold a_takes
      rw [tv]
      rfl
    rw [ha]
    exact ⟨rfl, sX_rfl⟩
  · refine ⟨5, 0, by first | decide | omega, by first | decide | omega, en_Ct_eq (R_tFitv hI hg hS hs hn hx tv) ?_⟩
    refine br_eq_n (by decide) (by decide) (by decide) ?_
    refine ⟨2, 0, by first | decide | omega, by first | decide | omega, en_Ct_eq (R_refX (-4) (by omega) M) ?_⟩
    have ha : a_takes M E s n x = (3, (-4)) := by
      unfold a_takes
      rw [tv]
      rfl
    rw [ha]
    exact ⟨rfl, sX_rfl⟩
  · refine ⟨5, 0, by first | decide | omega, by first | decide | omega, en_Ct_eq (R_tFitv hI hg hS hs hn hx tv) ?_⟩
    refine br_eq_n (by decide) (by decide) (by decide) ?_
    refine ⟨2, 0, by first | decide | omega, by first | decide | omega, en_Ct_eq (R_refX (-5) (by omega) M) ?_⟩
    have ha : a_takes M E s n x = (4, (-5)) := by
      unfold a_takes
      rw [tv]
      rfl
    rw [ha]
    exact ⟨rfl, sX_rfl⟩
  · refine ⟨5, 0, by first | decide | omega, by first | decide | omega, en_Ct_eq (R_tFitv hI hg hS hs hn hx tv) ?_⟩
    refine br_eq_y (by decide) (by decide) (by decide) ?_
    refine aw_104_21 ?_
    obtain ⟨k, rfl⟩ := Int.eq_ofNat_of_zero_le (show 0 ≤ s by omega)
    obtain ⟨m, rfl⟩ := Int.eq_ofNat_of_zero_le (show 0 ≤ n by omega)
    have hok := wi_ok _ _ t6
    refine L_takesX E M hI hg k m (by omega) (by omega) x (fun j hj => (hok j (by omega) (by omega)).1) ?_ m 0 (by omega)
    have ha : a_takes M E k m x = (0, s_tk E (M.2 (68 + 2 * k + 1)) m) := by
      unfold a_takes
      rw [tv]
      rfl
    rw [ha]
    exact ⟨rfl, sX_rfl⟩
def u_sh (E : Ev) (f : Nat → Int) (n p : Nat) : Ev := (fun r => if r = 14 then (fun j => if j = p then (n : Int) else E.1 14 j) else E.1 r, fun q => if q = p then (fun i => if i < n then f i else E.2 p i) else E.2 q)
theorem ev_sh {E F : Ev} (h : evs E F) {f f' : Nat → Int} {n p : Nat} (hf : ∀ i, i < n → f i = f' i) : evs (u_sh E f n p) (u_sh F f' n p) := by
  refine ⟨fun i hi => h.1 i hi, fun i hi => h.2.1 i hi, fun r i h2 h8 hi => ?_, fun q hq => ⟨?_, (h.2.2.2.1 q hq).2⟩, fun q i hq hi => ?_⟩
  · show (if r = 14 then _ else E.1 r) i = (if r = 14 then _ else F.1 r) i
    rw [if_neg (by omega), if_neg (by omega)]
    exact h.2.2.1 r i h2 h8 hi
  · show (if q = p then (n : Int) else E.1 14 q) = (if q = p then (n : Int) else F.1 14 q)
    rw [(h.2.2.2.1 q hq).1]
  · have hi' : (i : Int) < (if q = p then (n : Int) else E.1 14 q) := hi
    show (if q = p then _ else E.2 q) i = (if q = p then _ else F.2 q) i
    by_cases hqp : q = p
    · rw [if_pos hqp] at hi'
      rw [if_pos hqp, if_pos hqp, if_pos (show i < n by omega), if_pos (show i < n by omega)]
      exact hf i (by omega)
    · rw [if_neg hqp] at hi'
      rw [if_neg hqp, if_neg hqp]
      exact h.2.2.2.2 q i hq hi'
theorem ok_sh {E : Ev} (hg : s_ok E) {f : Nat → Int} {n p q : Nat} (hn : n ≤ 5) (hok : ∀ k, k < n → s_mf E q f k) : s_ok (u_sh E f n p) := by
  obtain ⟨g1, g2, g3, g4, g5⟩ := hg
  have e14 : ∀ q, (u_sh E f n p).1 14 q = if q = p then (n : Int) else E.1 14 q := fun q => rfl
  have e2 : ∀ q i, (u_sh E f n p).2 q i = if q = p then (if i < n then f i else E.2 p i) else E.2 q i := fun q i => by
    show (if q = p then _ else E.2 q) i = _
    by_cases h : q = p <;> simp [h]
  refine ⟨g1, g2, fun q hq => ?_, fun q hq a b hab hb => ?_, g5⟩
  · unfold s_sh
    rw [e14]
    by_cases h : q = p
    · rw [if_pos h]
      refine ⟨by omega, fun i hi => ?_⟩
      rw [e2, if_pos h, if_pos (by omega)]
      exact (hok i (by omega)).1
    · rw [if_neg h]
      refine ⟨(g3 q hq).1, fun i hi => ?_⟩
      rw [e2, if_neg h]
      exact (g3 q hq).2 i hi
  · rw [e14] at hb
    rw [e2, e2]
    by_cases h : q = p
    · rw [if_pos h] at hb
      rw [if_pos h, if_pos h, if_pos (by omega), if_pos (by omega)]
      exact (hok b (by omega)).2.2 a hab
    · rw [if_neg h] at hb
      rw [if_neg h, if_neg h]
      exact g4 q hq a b hab hb
theorem isE_sh {M : Mm} {e : Nat} {E : Ev} (h : isE M e E) {f : Nat → Int} {n p : Nat} (hp : p < 4) : isE (en_wI (pr M (e + 9 + 1 + 1 * p) f n) (e + 14) p (n : Int)) e (u_sh E f n p) := by
  refine ⟨fun r hr => ?_, fun q hq => ?_⟩
  · show _ = (if r = 14 then _ else E.1 r)
    unfold en_wI pr
    by_cases h14 : r = 14
    · subst h14
      have e1 : ¬ e + 14 = e + 9 + 1 + 1 * p := by omega
      simp only [if_true, if_neg e1]
      rw [h.1 14 (by omega)]
    · have e1 : ¬ e + r = e + 9 + 1 + 1 * p := by omega
      have e2 : ¬ e + r = e + 14 := by omega
      simp only [if_neg h14, if_neg e1, if_neg e2]
      exact h.1 r hr
  · show _ = (if q = p then _ else E.2 q)
    unfold en_wI pr
    have e2 : ¬ e + 9 + 1 + 1 * q = e + 14 := by omega
    by_cases hqp : q = p
    · subst hqp
      simp only [if_true, if_neg e2]
      rw [h.2 q hq]
    · have e1 : ¬ e + 9 + 1 + 1 * q = e + 9 + 1 + 1 * p := by omega
      simp only [if_neg hqp, if_neg e1, if_neg e2]
      exact h.2 q hq
theorem isM_sh {M : Mm} {b : Nat} {E : Ev} (h : isM M b E) {f : Nat → Int} {n p : Nat} (hp : p < 4) : isM (en_wI (pr M (b + 24 + 1 + 1 * p) f n) (b + 29) p (n : Int)) b (u_sh E f n p) := by
  obtain ⟨⟨z1, z2, z3, z4⟩, ⟨z5, z6, z7, z8⟩, z9⟩ := h
  have hb : ∀ a, a ≠ b + 24 + 1 + 1 * p → a ≠ b + 29 → (en_wI (pr M (b + 24 + 1 + 1 * p) f n) (b + 29) p (n : Int)).1 a = M.1 a := fun a h1 h2 => by
    rw [wI_ne h2, pr_ne h1]
  refine ⟨⟨?_, ?_, ?_, ?_⟩, ⟨?_, ?_, ?_, fun r q0 q1 => ?_⟩, fun q hq => ?_⟩
  · rw [hb b (by omega) (by omega)]; exact z1
  · rw [hb b (by omega) (by omega)]; exact z2
  · rw [hb b (by omega) (by omega)]; exact z3
  · rw [hb b (by omega) (by omega)]; exact z4
  · rw [hb _ (by omega) (by omega)]; exact z5
  · rw [wI_row, pr_ne (by omega), z6]
    rfl
  · rw [hb _ (by omega) (by omega)]; exact z7
  · rw [hb _ (by omega) (by omega)]
    show _ = (if r = 14 then _ else E.1 r)
    rw [if_neg (by omega)]
    exact z8 r q0 q1
  · show _ = (if q = p then _ else E.2 q)
    by_cases hqp : q = p
    · subst hqp
      rw [if_pos rfl, wI_ne (by omega)]
      unfold pr
      simp only [if_true]
      rw [z9 q hq]
    · rw [if_neg hqp, hb _ (by omega) (by omega)]
      exact z9 q hq
theorem X_put {M : Mm} {x n : Int} (h0 : 0 ≤ x) (h1 : x < 4) (A L : Nat) (hn0 : 0 ≤ n) (hn5 : n ≤ 5) (hnL : n ≤ (L : Int)) : en_Ct 1 0 23 [.inr (.inr (1, 1, 1)), .inl x, .inr (.inr (4, L, A)), .inl n] M (fun r M' => r = none ∧ M' = en_wI (pr M (1 + 9 + 1 + 1 * x.toNat) (M.2 A) n.toNat) (1 + 14) x.toNat (n.toNat : Int)) := by
  have := R_put 1 M x.toNat (by omega) A L n.toNat (by omega) (by omega)
  rw [show ((x.toNat : Nat) : Int) = x by omega, show ((n.toNat : Nat) : Int) = n by omega] at this
  rw [show ((n.toNat : Nat) : Int) = n by omega]
  exact this
theorem PX_sheet (E : Ev) (M : Mm) (hI : isE M 1 E) (hg : s_ok E) (hS : cS M) (s n x : Int) (hs : -2147483648 ≤ s ∧ s < 2147483648) (hn : -2147483648 ≤ n ∧ n < 2147483648) (hx : -2147483648 ≤ x ∧ x < 2147483648) : en_Ct 9 0 80 [.inr (.inr (1, 5, 0)), .inl s, .inl n, .inl x] M (fun r M' => r = some (.inl (a_sheet M E s n x).2) ∧ (((a_sheet M E s n x).1 ≠ 0 ∧ sX (aX M (a_sheet M E s n x).1) M') ∨ ((a_sheet M E s n x).1 = 0 ∧ xE M M' ∧ isE M' 1 (u_sh E (M.2 (68 + 2 * s.toNat + 1)) n.toNat x.toNat)))) := by
  obtain ⟨n0, n1, n2, a0, a1, a2, a3, a4, a5, a6, a7⟩ := hg.1
  have r0 : M.1 1 0 = E.1 0 0 := r0_I hI 0
  have r1 : M.1 1 1 = E.1 0 1 := r0_I hI 1
  have r2 : M.1 1 2 = E.1 0 2 := r0_I hI 2
  have hA : (0 ≤ s ∧ s ≤ 7) → (-1 ≤ M.1 (68 + 2 * s.toNat) 0 ∧ M.1 (68 + 2 * s.toNat) 0 ≤ 10) := fun z => sh_X hS (by omega)
  have hA2 : (0 ≤ s ∧ s ≤ 7) → (0 ≤ M.1 (68 + 2 * s.toNat) 0 ∧ M.1 (68 + 2 * s.toNat) 0 ≤ 4) → (0 ≤ M.1 (68 + 2 * s.toNat) 1 ∧ M.1 (68 + 2 * s.toNat) 1 ≤ 40) := fun z z2 => sh_X2 hS (by omega) z2
  have hl : (0 ≤ s ∧ s ≤ 7) → (0 ≤ M.1 (68 + 2 * s.toNat) 0 ∧ M.1 (68 + 2 * s.toNat) 0 ≤ 4) → ∀ i : Nat, i < 40 → -9223372036854775808 ≤ M.2 (68 + 2 * s.toNat + 1) i ∧ M.2 (68 + 2 * s.toNat + 1) i < 9223372036854775808 := fun z z2 => sh_X3 hS (by omega) z2
  refine ct_80 rfl ?_
  refine aw_80_0 ?_
  rcases tFit_c M E s n x with tv | tv | tv | tv | ⟨tv, t1, t2, t3, t4, t5, t6⟩
  · refine ⟨5, 0, by first | decide | omega, by first | decide | omega, en_Ct_eq (R_tFitv hI hg hS hs hn hx tv) ?_⟩
    refine br_eq_n (by decide) (by decide) (by decide) ?_
    refine ⟨2, 0, by first | decide | omega, by first | decide | omega, en_Ct_eq (R_refX (-2) (by omega) M) ?_⟩
    have ha : a_sheet M E s n x = (1, (-2)) := by
      unfold a_sheet
      rw [tv]
      rfl
    rw [ha]
    exact ⟨rfl, Or.inl ⟨by decide, sX_rfl⟩⟩
  · refine ⟨5, 0, by first | decide | omega, by first | decide | omega, en_Ct_eq (R_tFitv hI hg hS hs hn hx tv) ?_⟩
    refine br_eq_n (by decide) (by decide) (by decide) ?_
    refine ⟨2, 0, by first | decide | omega, by first | decide | omega, en_Ct_eq (R_refX (-3) (by omega) M) ?_⟩
    have ha : a_sheet M E s n x = (2, (-3)) := by
      unfold a_sheet
      rw [tv]
      rfl
    rw [ha]
    exact ⟨rfl, Or.inl ⟨by decide, sX_rfl⟩⟩
  · refine ⟨5, 0, by first | decide | omega, by first | decide | omega, en_Ct_eq (R_tFitv hI hg hS hs hn hx tv) ?_⟩
    refine br_eq_n (by decide) (by decide) (by decide) ?_
    refine ⟨2, 0, by first | decide | omega, by first | decide | omega, en_Ct_eq (R_refX (-4) (by omega) M) ?_⟩
    have ha : a_sheet M E s n x = (3, (-4)) := by
      unfold a_sheet
      rw [tv]
      rfl
    rw [ha]
    exact ⟨rfl, Or.inl ⟨by decide, sX_rfl⟩⟩
  · refine ⟨5, 0, by first | decide | omega, by first | decide | omega, en_Ct_eq (R_tFitv hI hg hS hs hn hx tv) ?_⟩
    refine br_eq_n (by decide) (by decide) (by decide) ?_
    refine ⟨2, 0, by first | decide | omega, by first | decide | omega, en_Ct_eq (R_refX (-5) (by omega) M) ?_⟩
    have ha : a_sheet M E s n x = (4, (-5)) := by
      unfold a_sheet
      rw [tv]
      rfl
    rw [ha]
    exact ⟨rfl, Or.inl ⟨by decide, sX_rfl⟩⟩
  · refine ⟨5, 0, by first | decide | omega, by first | decide | omega, en_Ct_eq (R_tFitv hI hg hS hs hn hx tv) ?_⟩
    refine br_eq_y (by decide) (by decide) (by decide) ?_
    refine aw_80_21 ?_
    refine ⟨s.toNat, it_nn (x := s) (by omega), (show s.toNat < 8 by omega), ?_⟩
    refine ⟨1, 0, by first | decide | omega, by first | decide | omega, en_Ct_eq (X_put (M := M) (x := x) (n := n) (by omega) (by omega) (68 + 2 * s.toNat + 1) 40 (by omega) (by omega) (by omega)) ?_⟩
    have ha : a_sheet M E s n x = (0, n) := by
      unfold a_sheet
      rw [tv]
      rfl
    rw [ha]
    refine ⟨rfl, Or.inr ⟨rfl, ⟨fun a ha => ?_, ?_, fun _ _ => rfl⟩, isE_sh hI (by omega)⟩⟩
    · rw [wI_ne (by omega), pr_ne (by omega)]
    · rw [wI_ne (by omega), pr_ne (by omega)]
