theorem nu_clr {c i : Nat} (hc : c < 2 ^ 31) (hi : i < 31) : ∃ d : Nat, d ≤ c ∧ en_and (c : Int) (en_xor (en_shl 1 (i : Int)) (-1)) = (d : Int) ∧ ∀ j, d.testBit j = (c.testBit j && !decide (j = i)) := by
  have h2 : 2 ^ i < 2 ^ 32 := Nat.pow_lt_pow_right (by decide) (by omega)
  have hx : ∀ j, (Int32.ofInt (c : Int) &&& (Int32.ofInt ((2 ^ i : Nat) : Int) ^^^ Int32.ofInt (-1))).toBitVec.toNat.testBit j = (c.testBit j && !decide (j = i)) := by
    intro j
    rw [Int32.toBitVec_and, Int32.toBitVec_xor, BitVec.toNat_and, BitVec.toNat_xor, nu_ofn, nu_ofn, nu_tb (by omega), nu_tb h2, Nat.testBit_and, Nat.testBit_xor, Nat.testBit_two_pow]
    by_cases hj : j < 32
    · rw [show (Int32.ofInt (-1)).toBitVec.toNat = 2 ^ 32 - 1 by decide, Nat.testBit_two_pow_sub_one]
      by_cases h : j = i
      · subst h; simp [hj]
      · have : ¬ i = j := fun q => h q.symm
        simp [hj, h, this]
    · have : c.testBit j = false := Nat.testBit_lt_two_pow (Nat.lt_of_lt_of_le hc (Nat.pow_le_pow_right (by decide) (by omega)))
      simp [this]
  have hle : (Int32.ofInt (c : Int) &&& (Int32.ofInt ((2 ^ i : Nat) : Int) ^^^ Int32.ofInt (-1))).toBitVec.toNat ≤ c := by
    rw [Int32.toBitVec_and, BitVec.toNat_and, nu_ofn, nu_tb (by omega)]
    exact Nat.and_le_left
  refine ⟨_, hle, ?_, hx⟩
  rw [nu_shl1 i hi]
  unfold en_and en_xor
  rw [Int32.ofInt_toInt]
  exact nu_ti (by omega)
/-- a bit set, and a bit asked -/
theorem or_bit {a w j : Nat} : (a ||| 2 ^ w).testBit j = (a.testBit j || decide (w = j)) := by rw [Nat.testBit_or, Nat.testBit_two_pow]
theorem kw_bit {E : Ev} {wr : Nat} : ∀ n j, (s_kw E wr n).1.testBit j = (decide (j < n) && (wr.testBit j && s_vote E j))
  | 0, j => by simp [s_kw]
  | n + 1, j => by
    have ih := kw_bit (E := E) (wr := wr) n j
    rw [s_kw]
    by_cases hj : j = n
    · subst hj
      by_cases h : (wr.testBit j && s_vote E j) = true
      · rw [if_pos h]
        dsimp only
        rw [or_bit, h]
        simp
      · rw [if_neg h, ih]
        rw [Bool.not_eq_true] at h
        rw [h]
        simp
    · have h1 : (decide (j < n + 1)) = decide (j < n) := decide_eq_decide.mpr (by omega)
      rw [h1, ← ih]
      have h2 : ¬ n = j := fun q => hj q.symm
      split
      · dsimp only
        rw [or_bit]
        simp [h2]
      · rfl
theorem kc_bit {E : Ev} {wr : Nat} : ∀ n c, (s_kw E wr n).2.testBit c = true ↔ ∃ w, w < n ∧ (wr.testBit w && s_vote E w) = true ∧ (E.1 4 w).toNat = c
  | 0, c => by simp [s_kw]
  | n + 1, c => by
    have ih := kc_bit (E := E) (wr := wr) n c
    rw [s_kw]
    by_cases h : (wr.testBit n && s_vote E n) = true
    · rw [if_pos h]
      dsimp only
      rw [or_bit, Bool.or_eq_true, ih, decide_eq_true_eq]
      constructor
      · rintro (⟨w, h1, h2, h3⟩ | h1)
        · exact ⟨w, by omega, h2, h3⟩
        · exact ⟨n, by omega, h, h1⟩
      · rintro ⟨w, h1, h2, h3⟩
        by_cases hw : w = n
        · subst hw
          exact Or.inr h3
        · exact Or.inl ⟨w, by omega, h2, h3⟩
    · rw [if_neg h, ih]
      constructor
      · rintro ⟨w, h1, h2, h3⟩
        exact ⟨w, by omega, h2, h3⟩
      · rintro ⟨w, h1, h2, h3⟩
        by_cases hw : w = n
        · subst hw
          exact absurd h2 h
        · exact ⟨w, by omega, h2, h3⟩
theorem wr_mem {can : Nat → Bool} {cost : Nat → Int} {sec : Int} : ∀ (l : List Nat) (t : Int) (b j : Nat), (s_wr can cost sec l t b).testBit j = true → b.testBit j = true ∨ j ∈ l
  | [], _, _, _, h => Or.inl h
  | w :: r, t, b, j, h => by
    unfold s_wr at h
    split at h
    · rcases wr_mem r _ _ j h with h1 | h1
      · split at h1
        · rw [or_bit, Bool.or_eq_true, decide_eq_true_eq] at h1
          rcases h1 with h1 | h1
          · exact Or.inl h1
          · subst h1
            exact Or.inr (List.mem_cons_self ..)
        · exact Or.inl h1
      · exact Or.inr (List.mem_cons_of_mem _ h1)
    · rcases wr_mem r _ _ j h with h1 | h1
      · exact Or.inl h1
      · exact Or.inr (List.mem_cons_of_mem _ h1)
theorem wrt_mem {E : Ev} {p : Nat} {sec : Int} {j : Nat} (h : (wrt E p sec).testBit j = true) : j ∈ s_shl E p := by
  rcases wr_mem _ _ _ _ h with h1 | h1
  · simp at h1
  · exact h1
theorem kpw_bit {E : Ev} (p j : Nat) : (kpw E p).testBit j = (decide (j < (E.1 0 1).toNat) && ((wrt E p (s_call E)).testBit j && s_vote E j)) := kw_bit _ _
theorem kpw_mem {E : Ev} {p j : Nat} (h : (kpw E p).testBit j = true) : j < (E.1 0 1).toNat ∧ j ∈ s_shl E p := by
  rw [kpw_bit, Bool.and_eq_true, Bool.and_eq_true, decide_eq_true_eq] at h
  exact ⟨h.1, wrt_mem h.2.1⟩
theorem kpc_bit {E : Ev} {p c : Nat} : (kpc E p).testBit c = true ↔ ∃ w, (kpw E p).testBit w = true ∧ (E.1 4 w).toNat = c := by
  unfold kpc
  rw [kc_bit]
  constructor
  · rintro ⟨w, h1, h2, h3⟩
    exact ⟨w, by rw [kpw_bit, h2]; simpa using h1, h3⟩
  · rintro ⟨w, h1, h2⟩
    rw [kpw_bit, Bool.and_eq_true, decide_eq_true_eq] at h1
    exact ⟨w, h1.1, h1.2, h2⟩
theorem shl_at {f : Nat → Int} {w : Nat} : ∀ (n i : Nat), w ∈ shl f i n → ∃ j, i ≤ j ∧ j < i + n ∧ (f j).toNat = w
  | 0, _, h => by cases h
  | n + 1, i, h => by
    rcases List.mem_cons.mp h with h | h
    · exact ⟨i, by omega, by omega, h.symm⟩
    · obtain ⟨j, h1, h2, h3⟩ := shl_at n (i + 1) h
      exact ⟨j, by omega, by omega, h3⟩
theorem mem_uniq {E : Ev} (hg : s_ok E) {p w v : Nat} (hp : p < 4) (h1 : w ∈ s_shl E p) (h2 : v ∈ s_shl E p) (hc : E.1 4 w = E.1 4 v) : w = v := by
  obtain ⟨i, -, i1, i2⟩ := shl_at _ _ h1
  obtain ⟨j, -, j1, j2⟩ := shl_at _ _ h2
  have hd := hg.2.2.2.1 p hp
  have hs := (hg.2.2.1 p hp).1
  rcases Nat.lt_trichotomy i j with h | h | h
  · exact absurd (by rw [i2, j2]; exact hc) (hd i j h (by omega))
  · subst h; rw [← i2, ← j2]
  · exact absurd (by rw [i2, j2]; exact hc.symm) (hd j i h (by omega))
