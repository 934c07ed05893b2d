/-- how many keep one of a column, one of them being told -/
theorem hm_zero {E : Ev} {c : Nat} : ∀ n, (∀ q, q < n → (kpc E q).testBit c = false) → s_hm E c n = 0
  | 0, _ => rfl
  | n + 1, h => by
    unfold s_hm
    rw [hm_zero n (fun q hq => h q (by omega)), h n (by omega)]
    rfl
theorem hm_one {E : Ev} {c p : Nat} (hb : (kpc E p).testBit c = true) : ∀ n, p < n → (∀ q, q < n → q ≠ p → (kpc E q).testBit c = false) → s_hm E c n = 1
  | 0, h, _ => absurd h (Nat.not_lt_zero p)
  | n + 1, h, hq => by
    unfold s_hm
    by_cases hpn : p = n
    · subst hpn
      rw [hm_zero p (fun q hq' => hq q (by omega) (by omega)), hb]
      rfl
    · rw [hm_one hb n (by omega) (fun q h1 h2 => hq q (by omega) h2), hq n (by omega) (fun z => hpn z.symm)]
      rfl
theorem hm_ge1 {E : Ev} {c p : Nat} (hb : (kpc E p).testBit c = true) : ∀ n, p < n → 1 ≤ s_hm E c n
  | 0, h => absurd h (Nat.not_lt_zero p)
  | n + 1, h => by
    unfold s_hm
    by_cases hpn : p = n
    · subst hpn
      rw [hb]
      simp
    · have := hm_ge1 hb n (by omega)
      omega
theorem hm_two {E : Ev} {c p q : Nat} (hb : (kpc E p).testBit c = true) (hc : (kpc E q).testBit c = true) (hpq : p < q) : ∀ n, q < n → 2 ≤ s_hm E c n
  | 0, h => absurd h (Nat.not_lt_zero q)
  | n + 1, h => by
    unfold s_hm
    by_cases hqn : q = n
    · subst hqn
      have := hm_ge1 hb q hpq
      rw [hc]
      simp
      omega
    · have := hm_two hb hc hpq n (by omega)
      omega
theorem hm_iff {E : Ev} {c p n : Nat} (hb : (kpc E p).testBit c = true) (hp : p < n) : s_hm E c n ≤ 1 ↔ ∀ q, q < n → q ≠ p → (kpc E q).testBit c = false := by
  constructor
  · intro h q hq hqp
    by_cases hc : (kpc E q).testBit c = true
    · rcases Nat.lt_or_gt_of_ne hqp with h1 | h1
      · have := hm_two hc hb h1 n hp
        omega
      · have := hm_two hb hc h1 n hq
        omega
    · exact Bool.not_eq_true _ ▸ hc
  · intro h
    rw [hm_one hb n hp h]
    exact Nat.le_refl 1
theorem kb_bit {E : Ev} {w : Nat} : ∀ n q, (s_kb E w n).testBit q = (decide (q < n) && (kpw E q).testBit w)
  | 0, q => by simp [s_kb]
  | n + 1, q => by
    have ih := kb_bit (E := E) (w := w) n q
    unfold s_kb
    rw [Nat.testBit_or, ih]
    by_cases hq : q = n
    · subst hq
      by_cases h : (kpw E q).testBit w = true
      · rw [if_pos h, h, Nat.testBit_two_pow]
        simp
      · rw [if_neg h]
        rw [Bool.not_eq_true] at h
        rw [h]
        simp
    · have h1 : (decide (q < n + 1)) = decide (q < n) := decide_eq_decide.mpr (by omega)
      have h2 : ¬ n = q := fun z => hq z.symm
      rw [h1]
      split
      · rw [Nat.testBit_two_pow]
        simp [h2]
      · simp
theorem pc_one' : ∀ m : Fin 16, ∀ p : Fin 4, m.val.testBit p.val = true → (s_pc m.val ≤ 1 ↔ ∀ q : Fin 4, q.val ≠ p.val → m.val.testBit q.val = false) := by decide +kernel
theorem pc_one (m : Nat) (hm : m < 16) (p : Nat) (hp : p < 4) (h : m.testBit p = true) : s_pc m ≤ 1 ↔ ∀ q, q < 4 → q ≠ p → m.testBit q = false := by
  rw [pc_one' ⟨m, hm⟩ ⟨p, hp⟩ h]
  exact ⟨fun z q hq => z ⟨q, hq⟩, fun z q => z q.val q.isLt⟩
theorem kb_iff {E : Ev} (hg : s_ok E) {w p n : Nat} (hn : n ≤ 4) (hb : (kpw E p).testBit w = true) (hp : p < n) : s_pc (s_kb E w n) ≤ 1 ↔ ∀ q, q < n → q ≠ p → (kpw E q).testBit w = false := by
  rw [pc_one _ (s_kb_b hg hn) p (by omega) (by rw [kb_bit, hb]; simpa using hp)]
  constructor
  · intro h q hq hqp
    have := h q (by omega) hqp
    rw [kb_bit] at this
    simpa [hq] using this
  · intro h q hq hqp
    rw [kb_bit]
    by_cases hqn : q < n
    · rw [h q hqn hqp]; simp
    · simp [hqn]
/-- the first word of a set in a column, of n from i on -/
def s_co (E : Ev) (set : Nat) (c : Int) : Nat → Nat → Int
  | 0, _ => -1
  | n + 1, i => if set.testBit i = true ∧ E.1 4 i = c then (i : Int) else s_co E set c n (i + 1)
def col1 (E : Ev) (q : Nat) (c : Int) : Int := s_co E (kpw E q) c (E.1 0 1).toNat 0
theorem cq_none {E : Ev} {set : Nat} {c : Int} : ∀ n i, (∀ w, i ≤ w → w < i + n → ¬ (set.testBit w = true ∧ E.1 4 w = c)) → s_co E set c n i = -1
  | 0, _, _ => rfl
  | n + 1, i, h => by
    unfold s_co
    rw [if_neg (h i (by omega) (by omega))]
    exact cq_none n (i + 1) (fun w h1 h2 => h w (by omega) (by omega))
theorem cq_some {E : Ev} {set v : Nat} {c : Int} (hv : set.testBit v = true ∧ E.1 4 v = c) : ∀ n i, i ≤ v → v < i + n → (∀ w, set.testBit w = true ∧ E.1 4 w = c → w = v) → s_co E set c n i = (v : Int)
  | 0, _, _, _, _ => by omega
  | n + 1, i, h1, h2, hu => by
    unfold s_co
    by_cases hi : set.testBit i = true ∧ E.1 4 i = c
    · rw [if_pos hi, hu i hi]
    · rw [if_neg hi]
      refine cq_some hv n (i + 1) ?_ (by omega) hu
      by_cases hiv : i = v
      · subst hiv; exact absurd hv hi
      · omega
theorem kpw_uniq {E : Ev} (hg : s_ok E) {q v w : Nat} (hq : q < 4) (hv : (kpw E q).testBit v = true) (hw : (kpw E q).testBit w = true) (hc : E.1 4 w = E.1 4 v) : w = v := mem_uniq hg hq (kpw_mem hw).2 (kpw_mem hv).2 hc
theorem col1_some {E : Ev} (hg : s_ok E) {q v : Nat} {c : Int} (hq : q < 4) (hv : (kpw E q).testBit v = true) (hc : E.1 4 v = c) : col1 E q c = (v : Int) :=
  cq_some ⟨hv, hc⟩ _ _ (by omega) (by have := (kpw_mem hv).1; omega) (fun w hw => kpw_uniq hg hq hv hw.1 (by omega))
theorem col1_cases {E : Ev} (hg : s_ok E) {q c : Nat} (hq : q < 4) : (col1 E q (c : Int) = -1 ∧ (kpc E q).testBit c = false ∧ ∀ v : Nat, (kpw E q).testBit v = true → E.1 4 v ≠ (c : Int)) ∨ ∃ v : Nat, col1 E q (c : Int) = (v : Int) ∧ (kpw E q).testBit v = true ∧ E.1 4 v = (c : Int) ∧ (kpc E q).testBit c = true := by
  by_cases h : ∃ v, (kpw E q).testBit v = true ∧ E.1 4 v = (c : Int)
  · obtain ⟨v, h1, h2⟩ := h
    exact Or.inr ⟨v, col1_some hg hq h1 h2, h1, h2, kpc_bit.mpr ⟨v, h1, by omega⟩⟩
  · have h' : ∀ v : Nat, (kpw E q).testBit v = true → E.1 4 v ≠ (c : Int) := fun v h1 h2 => h ⟨v, h1, h2⟩
    refine Or.inl ⟨cq_none _ _ (fun w _ _ hw => h' w hw.1 hw.2), ?_, h'⟩
    by_cases hc : (kpc E q).testBit c = true
    · obtain ⟨v, h1, h2⟩ := kpc_bit.mp hc
      have h3 := (hg.2.1 v (by have := (kpw_mem h1).1; omega)).2.2.1
      exact absurd (by omega) (h' v h1)
    · exact Bool.not_eq_true _ ▸ hc
/-- points of a person in a column, told by who else has one there -/
theorem pts_at0 {E : Ev} (hg : s_ok E) {p c : Nat} (hp : p < 4) (h : col1 E p (c : Int) = -1) : pts E p (c : Int) = 0 := by
  rcases col1_cases hg (c := c) hp with h1 | ⟨v, h1, -⟩
  · refine pin_none _ (fun w _ hq => ?_)
    rcases hq.2 with h3 | h3
    · omega
    · exact h1.2.2 w hq.1 h3
  · omega
theorem pts_at1 {E : Ev} (hg : s_ok E) {p c : Nat} (hp : (p : Int) < E.1 0 2) (h : col1 E p (c : Int) ≠ -1) : pts E p (c : Int) = if ∀ q, q < (E.1 0 2).toNat → q ≠ p → col1 E q (c : Int) = -1 then E.1 1 3 else if ∀ q, q < (E.1 0 2).toNat → q ≠ p → col1 E q (c : Int) ≠ col1 E p (c : Int) then E.1 1 4 else E.1 1 5 := by
  have hn := hg.1.2.2.1
  have hp4 : p < 4 := by omega
  rcases col1_cases hg (c := c) hp4 with h1 | ⟨v, h1, h2, h3, h4⟩
  · exact absurd h1.1 h
  · have e1 : pts E p (c : Int) = s_worth E v := pin_one (by omega) h2 h3 _ (kpw_mem h2).2 (sheet_nd hg hp4) (fun w hw hc => mem_uniq hg hp4 hw (kpw_mem h2).2 (by omega))
    have hA : s_hm E c (E.1 0 2).toNat ≤ 1 ↔ ∀ q, q < (E.1 0 2).toNat → q ≠ p → col1 E q (c : Int) = -1 := by
      rw [hm_iff h4 (by omega)]
      constructor
      · intro hh q hq hqp
        rcases col1_cases hg (q := q) (c := c) (by omega) with z | ⟨u, z1, z2, z3, z4⟩
        · exact z.1
        · rw [hh q hq hqp] at z4; cases z4
      · intro hh q hq hqp
        have hz := hh q hq hqp
        rcases col1_cases hg (q := q) (c := c) (by omega) with z | ⟨u, z1, z2, z3, z4⟩
        · exact z.2.1
        · omega
    have hB : s_pc (s_kb E v (E.1 0 2).toNat) ≤ 1 ↔ ∀ q, q < (E.1 0 2).toNat → q ≠ p → col1 E q (c : Int) ≠ col1 E p (c : Int) := by
      rw [kb_iff hg (by omega) h2 (by omega), h1]
      constructor
      · intro hh q hq hqp hz
        rcases col1_cases hg (q := q) (c := c) (by omega) with z | ⟨u, z1, z2, z3, z4⟩
        · omega
        · have : u = v := by omega
          subst this
          rw [hh q hq hqp] at z2; cases z2
      · intro hh q hq hqp
        by_cases hk : (kpw E q).testBit v = true
        · exact absurd (col1_some hg (by omega) hk h3) (hh q hq hqp)
        · exact Bool.not_eq_true _ ▸ hk
    rw [e1]
    unfold s_worth
    rw [show (E.1 4 v).toNat = c by omega]
    simp only [hA, hB]
/-- who has most points but one -/
theorem ld_pts {E : Ev} {o : Int} (hg : s_ok E) : ∀ n, n ≤ 4 → ((s_ld E o n).1 = -1 ∧ (s_ld E o n).2 = -1) ∨ ∃ k : Nat, k < n ∧ (s_ld E o n).1 = (k : Int) ∧ (s_ld E o n).2 = pts E k (-1) ∧ (k : Int) ≠ o
  | 0, _ => Or.inl ⟨rfl, rfl⟩
  | n + 1, h => by
    have ih := ld_pts (o := o) hg n (by omega)
    have hb := s_ld_b (o := o) hg n (by omega)
    rw [s_ld]
    by_cases ho : (n : Int) = o
    · rw [if_pos ho, if_neg (by omega)]
      rcases ih with ih | ⟨k, k1, k2⟩
      · exact Or.inl ih
      · exact Or.inr ⟨k, by omega, k2⟩
    · rw [if_neg ho]
      split
      · exact Or.inr ⟨n, by omega, rfl, rfl, ho⟩
      · rcases ih with ih | ⟨k, k1, k2⟩
        · exact Or.inl ih
        · exact Or.inr ⟨k, by omega, k2⟩
