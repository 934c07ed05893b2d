/-! the best sheet: what a sheet comes to -/
def lmp (E : Ev) (p : Nat) : Nat → Int
  | 0 => E.1 1 2
  | n + 1 => if n = p then lmp E p n else if rdy E n < lmp E p n then rdy E n else lmp E p n
def lim (E : Ev) (p : Nat) : Int := lmp E p (E.1 0 2).toNat
theorem lmp_b {E : Ev} (hg : s_ok E) {p : Nat} : ∀ n, n ≤ 4 → 0 ≤ lmp E p n ∧ lmp E p n ≤ 600
  | 0, _ => by
    have := hg.1.2.2.2.2.2.1
    simp only [lmp]
    omega
  | n + 1, h => by
    have ih := lmp_b hg (p := p) n (by omega)
    have hr := rdy_b hg (p := n) (by omega)
    unfold lmp
    split
    · exact ih
    · split <;> omega
theorem lim_b {E : Ev} (hg : s_ok E) {p : Nat} : 0 ≤ lim E p ∧ lim E p ≤ 600 := lmp_b hg _ (ok_pp hg)
theorem lmp_char {E : Ev} {p : Nat} : ∀ n, lmp E p n ≤ E.1 1 2 ∧ (∀ q, q < n → q ≠ p → lmp E p n ≤ rdy E q) ∧ (lmp E p n = E.1 1 2 ∨ ∃ q, q < n ∧ q ≠ p ∧ lmp E p n = rdy E q)
  | 0 => ⟨Int.le_refl _, fun q hq => absurd hq (Nat.not_lt_zero q), Or.inl rfl⟩
  | n + 1 => by
    obtain ⟨h1, h2, h3⟩ := lmp_char (E := E) (p := p) n
    unfold lmp
    by_cases hp : n = p
    · rw [if_pos hp]
      refine ⟨h1, fun q hq hqp => ?_, h3.imp id (fun ⟨q, a, b, c⟩ => ⟨q, by omega, b, c⟩)⟩
      have : q ≠ n := fun z => hqp (z.trans hp)
      exact h2 q (by omega) hqp
    · rw [if_neg hp]
      by_cases hr : rdy E n < lmp E p n
      · rw [if_pos hr]
        refine ⟨by omega, fun q hq hqp => ?_, Or.inr ⟨n, by omega, hp, rfl⟩⟩
        by_cases hqn : q = n
        · subst hqn; exact Int.le_refl _
        · have := h2 q (by omega) hqp
          omega
      · rw [if_neg hr]
        refine ⟨h1, fun q hq hqp => ?_, h3.imp id (fun ⟨q, a, b, c⟩ => ⟨q, by omega, b, c⟩)⟩
        by_cases hqn : q = n
        · subst hqn; omega
        · exact h2 q (by omega) hqp
theorem cc_char {E : Ev} : ∀ n, (s_cc E n).1 ≤ E.1 1 2 ∧ (∀ q, q < n → (s_cc E n).1 ≤ rdy E q) ∧ ((s_cc E n).1 = E.1 1 2 ∨ ∃ q, q < n ∧ (s_cc E n).1 = rdy E q)
  | 0 => ⟨Int.le_refl _, fun q hq => absurd hq (Nat.not_lt_zero q), Or.inl rfl⟩
  | n + 1 => by
    obtain ⟨h1, h2, h3⟩ := cc_char (E := E) n
    unfold s_cc
    by_cases hr : rdy E n < (s_cc E n).1 ∨ (rdy E n = (s_cc E n).1 ∧ (s_cc E n).2 = -1)
    · rw [if_pos hr]
      refine ⟨by dsimp only; omega, fun q hq => ?_, Or.inr ⟨n, by omega, rfl⟩⟩
      dsimp only
      by_cases hqn : q = n
      · subst hqn; exact Int.le_refl _
      · have := h2 q (by omega)
        omega
    · rw [if_neg hr]
      refine ⟨h1, fun q hq => ?_, h3.imp id (fun ⟨q, a, b⟩ => ⟨q, by omega, b⟩)⟩
      by_cases hqn : q = n
      · subst hqn; omega
      · exact h2 q (by omega)
/-- the second by which a sheet's writer has enough -/
def rdl (E : Ev) (l : List Nat) : Int := if (E.1 1 1).toNat ≤ l.length then sm (s_cost E) (l.take (E.1 1 1).toNat) else 1000000
def cl (E : Ev) (p : Nat) (l : List Nat) : Int := if rdl E l < lim E p then rdl E l else lim E p
theorem rd_all {can : Nat → Bool} {cost : Nat → Int} {v m : Int} : ∀ (l : List Nat) (t n : Int) (k : Nat), (∀ w ∈ l, can w = true) → m = n + (k : Int) → 1 ≤ k → s_rd can cost m v l t n = if k ≤ l.length then t + sm cost (l.take k) else v
  | [], t, n, k, _, _, hk => by
    unfold s_rd
    rw [if_neg (by simp only [List.length_nil]; omega)]
  | w :: r, t, n, k, hc, hm, hk => by
    have hr : ∀ v ∈ r, can v = true := fun v hv => hc v (List.mem_cons_of_mem _ hv)
    unfold s_rd
    rw [if_pos (hc w (List.mem_cons_self ..))]
    obtain ⟨k', rfl⟩ : ∃ k', k = k' + 1 := ⟨k - 1, by omega⟩
    rw [List.take_succ_cons, List.length_cons]
    by_cases h1 : n + 1 = m
    · have hk0 : k' = 0 := by omega
      subst hk0
      rw [if_pos h1, if_pos (by omega), List.take_zero]
      simp [sm]
    · rw [if_neg h1, rd_all r (t + cost w) (n + 1) k' hr (by omega) (by omega)]
      by_cases h2 : k' ≤ r.length
      · rw [if_pos h2, if_pos (by omega)]
        show t + cost w + sm cost (r.take k') = t + (cost w + sm cost (r.take k'))
        omega
      · rw [if_neg h2, if_neg (by omega)]
theorem rdy_T {E : Ev} (hg : s_ok E) {p : Nat} {l : List Nat} (h : vld E p l) : rdy (shE E p l) p = rdl E l := by
  unfold rdy rdl
  rw [shE_p, shE_can, shE_cost]
  have hn := hg.1.2.2.2.2.1
  have e : (shE E p l).1 1 1 = E.1 1 1 := rfl
  rw [e, rd_all (k := (E.1 1 1).toNat) l 0 0 (fun w hw => (h.1 w hw).1) (by omega) (by omega), Int.zero_add]
theorem rdy_Tq {E : Ev} {p q : Nat} {l : List Nat} (h : q ≠ p) : rdy (shE E p l) q = rdy E q := by
  unfold rdy
  rw [shE_q h, shE_can, shE_cost]
  rfl
theorem call_T {E : Ev} (hg : s_ok E) {p : Nat} (hp : (p : Int) < E.1 0 2) {l : List Nat} (h : vld E p l) : s_call (shE E p l) = cl E p l := by
  have eP : (shE E p l).1 0 2 = E.1 0 2 := rfl
  have eB : (shE E p l).1 1 2 = E.1 1 2 := rfl
  obtain ⟨a1, a2, a3⟩ := cc_char (E := shE E p l) (E.1 0 2).toNat
  obtain ⟨b1, b2, b3⟩ := lmp_char (E := E) (p := p) (E.1 0 2).toNat
  have hr := rdy_T hg h
  have c1 := a2 p (by omega)
  rw [hr] at c1
  have c2 : (s_cc (shE E p l) (E.1 0 2).toNat).1 ≤ lmp E p (E.1 0 2).toNat := by
    rcases b3 with z | ⟨q, q1, q2, q3⟩
    · rw [z, ← eB]; exact a1
    · rw [q3, ← rdy_Tq (l := l) q2]
      exact a2 q q1
  have c3 : (s_cc (shE E p l) (E.1 0 2).toNat).1 = rdl E l ∨ lmp E p (E.1 0 2).toNat ≤ (s_cc (shE E p l) (E.1 0 2).toNat).1 := by
    rcases a3 with z | ⟨q, q1, q2⟩
    · right; rw [z, eB]; exact b1
    · by_cases hq : q = p
      · left; rw [q2, hq, hr]
      · right; rw [q2, rdy_Tq hq]; exact b2 q q1 hq
  unfold s_call cl lim
  rw [eP]
  by_cases hz : rdl E l < lmp E p (E.1 0 2).toNat
  · rw [if_pos hz]; omega
  · rw [if_neg hz]; omega
/-- the others' words that pass the vote, each with its second -/
def owq (E : Ev) (q : Nat) : List (Nat × Int) := (ws_ (s_can E q) (s_cost E) (s_shl E q) 0).filter (fun x => s_vote E x.1)
def owl (E : Ev) (p : Nat) : Nat → List (Nat × Int)
  | 0 => []
  | n + 1 => if n = p then owl E p n else owl E p n ++ owq E n
def kwb (c : Int) : List (Nat × Int) → Nat
  | [] => 0
  | x :: r => (if x.2 ≤ c then 2 ^ x.1 else 0) ||| kwb c r
def kcb (E : Ev) (c : Int) : List (Nat × Int) → Nat
  | [] => 0
  | x :: r => (if x.2 ≤ c then 2 ^ (E.1 4 x.1).toNat else 0) ||| kcb E c r
theorem kwb_bit {c : Int} {j : Nat} : ∀ L : List (Nat × Int), (kwb c L).testBit j = true ↔ ∃ x, (j, x) ∈ L ∧ x ≤ c
  | [] => by simp [kwb]
  | y :: r => by
    unfold kwb
    rw [Nat.testBit_or, Bool.or_eq_true, kwb_bit r]
    constructor
    · rintro (h | ⟨x, h1, h2⟩)
      · by_cases hy : y.2 ≤ c
        · rw [if_pos hy, Nat.testBit_two_pow, decide_eq_true_eq] at h
          exact ⟨y.2, by rw [← h]; exact List.mem_cons_self .., hy⟩
        · rw [if_neg hy] at h
          simp at h
      · exact ⟨x, List.mem_cons_of_mem _ h1, h2⟩
    · rintro ⟨x, h1, h2⟩
      rcases List.mem_cons.mp h1 with z | z
      · left
        subst z
        rw [if_pos h2, Nat.testBit_two_pow]
        simp
      · exact Or.inr ⟨x, z, h2⟩
theorem kcb_bit {E : Ev} {c : Int} {k : Nat} : ∀ L : List (Nat × Int), (kcb E c L).testBit k = true ↔ ∃ w x, (w, x) ∈ L ∧ x ≤ c ∧ (E.1 4 w).toNat = k
  | [] => by simp [kcb]
  | y :: r => by
    unfold kcb
    rw [Nat.testBit_or, Bool.or_eq_true, kcb_bit r]
    constructor
    · rintro (h | ⟨w, x, h1, h2, h3⟩)
      · by_cases hy : y.2 ≤ c
        · rw [if_pos hy, Nat.testBit_two_pow, decide_eq_true_eq] at h
          exact ⟨y.1, y.2, List.mem_cons_self .., hy, h⟩
        · rw [if_neg hy] at h
          simp at h
      · exact ⟨w, x, List.mem_cons_of_mem _ h1, h2, h3⟩
    · rintro ⟨w, x, h1, h2, h3⟩
      rcases List.mem_cons.mp h1 with z | z
      · left
        subst z
        rw [if_pos h2, Nat.testBit_two_pow]
        simp [h3]
      · exact Or.inr ⟨w, x, z, h2, h3⟩
theorem owl_mem {E : Ev} {p : Nat} {x : Nat × Int} : ∀ n, x ∈ owl E p n ↔ ∃ q, q < n ∧ q ≠ p ∧ x ∈ ws_ (s_can E q) (s_cost E) (s_shl E q) 0 ∧ s_vote E x.1 = true
  | 0 => by simp [owl]
  | n + 1 => by
    unfold owl
    by_cases hn : n = p
    · rw [if_pos hn, owl_mem n]
      constructor
      · rintro ⟨q, a, b⟩
        exact ⟨q, by omega, b⟩
      · rintro ⟨q, a, b, c⟩
        have : q ≠ n := fun z => b (z.trans hn)
        exact ⟨q, by omega, b, c⟩
    · rw [if_neg hn, List.mem_append, owl_mem n]
      unfold owq
      rw [List.mem_filter]
      constructor
      · rintro (⟨q, a, b⟩ | h)
        · exact ⟨q, by omega, b⟩
        · exact ⟨n, by omega, hn, h.1, h.2⟩
      · rintro ⟨q, a, b, c, d⟩
        by_cases hq : q = n
        · subst hq; exact Or.inr ⟨c, d⟩
        · exact Or.inl ⟨q, by omega, b, c, d⟩
def oth (E : Ev) (p : Nat) : List (Nat × Int) := owl E p (E.1 0 2).toNat
def wta (E : Ev) (p : Nat) (c : Int) (w : Nat) : Int := if (kcb E c (oth E p)).testBit (E.1 4 w).toNat = true then (if (kwb c (oth E p)).testBit w = true then E.1 1 5 else E.1 1 4) else E.1 1 3
def gv (E : Ev) (p : Nat) (c : Int) (w : Nat) : Int := if s_vote E w = true then wta E p c w else 0
theorem gv_b {E : Ev} (hg : s_ok E) {p : Nat} {c : Int} {w : Nat} : 0 ≤ gv E p c w ∧ gv E p c w ≤ 50 := by
  obtain ⟨n0, n1, n2, a0, a1, a2, a3, a4, a5, a6, a7⟩ := hg.1
  unfold gv wta
  split
  · split
    · split <;> omega
    · omega
  · omega
theorem kpw_q {E : Ev} (hg : s_ok E) {p q w : Nat} {l : List Nat} (hq4 : q < 4) (hq : q ≠ p) : (kpw (shE E p l) q).testBit w = true ↔ (∃ x, (w, x) ∈ ws_ (s_can E q) (s_cost E) (s_shl E q) 0 ∧ x ≤ s_call (shE E p l)) ∧ s_vote E w = true := by
  rw [kpw_bit]
  unfold wrt
  rw [shE_q hq, shE_can, shE_cost, shE_vote, Bool.and_eq_true, Bool.and_eq_true, decide_eq_true_eq, wr_ws]
  have e : (shE E p l).1 0 1 = E.1 0 1 := rfl
  rw [e]
  constructor
  · rintro ⟨h1, h2, h3⟩
    refine ⟨?_, h3⟩
    rcases h2 with z | z
    · simp at z
    · exact z
  · rintro ⟨⟨x, h1, h2⟩, h3⟩
    have hm := (ws_ge (s_shl E q) 0 (fun v hv _ => (s_cost_b (hg.2.1 v (shl_w hg hq4 v hv))).1) h1).2
    have := shl_w hg hq4 w hm
    exact ⟨by omega, Or.inr ⟨x, h1, h2⟩, h3⟩
theorem kw_iff {E : Ev} (hg : s_ok E) {p w : Nat} {l : List Nat} : (kwb (s_call (shE E p l)) (oth E p)).testBit w = true ↔ ∃ q, q < (E.1 0 2).toNat ∧ q ≠ p ∧ (kpw (shE E p l) q).testBit w = true := by
  have h4 := ok_pp hg
  rw [kwb_bit]
  unfold oth
  constructor
  · rintro ⟨x, h1, h2⟩
    obtain ⟨q, q1, q2, q3, q4⟩ := (owl_mem _).mp h1
    exact ⟨q, q1, q2, (kpw_q hg (by omega) q2).mpr ⟨⟨x, q3, h2⟩, q4⟩⟩
  · rintro ⟨q, q1, q2, q3⟩
    obtain ⟨⟨x, x1, x2⟩, v⟩ := (kpw_q hg (by omega) q2).mp q3
    exact ⟨x, (owl_mem _).mpr ⟨q, q1, q2, x1, v⟩, x2⟩
theorem kc_iff {E : Ev} (hg : s_ok E) {p k : Nat} {l : List Nat} : (kcb E (s_call (shE E p l)) (oth E p)).testBit k = true ↔ ∃ q, q < (E.1 0 2).toNat ∧ q ≠ p ∧ (kpc (shE E p l) q).testBit k = true := by
  have h4 := ok_pp hg
  rw [kcb_bit]
  unfold oth
  constructor
  · rintro ⟨w, x, h1, h2, h3⟩
    obtain ⟨q, q1, q2, q3, q4⟩ := (owl_mem _).mp h1
    exact ⟨q, q1, q2, kpc_bit.mpr ⟨w, (kpw_q hg (by omega) q2).mpr ⟨⟨x, q3, h2⟩, q4⟩, h3⟩⟩
  · rintro ⟨q, q1, q2, q3⟩
    obtain ⟨w, w1, w2⟩ := kpc_bit.mp q3
    obtain ⟨⟨x, x1, x2⟩, v⟩ := (kpw_q hg (by omega) q2).mp w1
    exact ⟨w, x, (owl_mem _).mpr ⟨q, q1, q2, x1, v⟩, x2, w2⟩
theorem worth_T {E : Ev} (hg : s_ok E) {p w : Nat} (hp : (p : Int) < E.1 0 2) {l : List Nat} (h : vld E p l) (hb : (kpw (shE E p l) p).testBit w = true) : s_worth (shE E p l) w = wta E p (s_call (shE E p l)) w := by
  have h4 := ok_pp hg
  have hgT := ok_shE hg h
  have hc : (kpc (shE E p l) p).testBit (E.1 4 w).toNat = true := kpc_bit.mpr ⟨w, hb, rfl⟩
  have i1 := hm_iff (n := (E.1 0 2).toNat) hc (by omega)
  have i2 := kb_iff hgT (n := (E.1 0 2).toNat) h4 hb (by omega)
  unfold s_worth wta
  have e2 : (shE E p l).1 0 2 = E.1 0 2 := rfl
  have e4 : (shE E p l).1 4 = E.1 4 := rfl
  have e1 : (shE E p l).1 1 = E.1 1 := rfl
  rw [e2, e4, e1]
  by_cases hh : s_hm (shE E p l) (E.1 4 w).toNat (E.1 0 2).toNat ≤ 1
  · rw [if_pos hh, if_neg]
    intro z
    obtain ⟨q, q1, q2, q3⟩ := (kc_iff hg).mp z
    rw [i1.mp hh q q1 q2] at q3
    cases q3
  · have hkc : (kcb E (s_call (shE E p l)) (oth E p)).testBit (E.1 4 w).toNat = true := by
      by_cases hz : (kcb E (s_call (shE E p l)) (oth E p)).testBit (E.1 4 w).toNat = true
      · exact hz
      · refine absurd (i1.mpr (fun q q1 q2 => ?_)) hh
        by_cases hy : (kpc (shE E p l) q).testBit (E.1 4 w).toNat = true
        · exact absurd ((kc_iff hg).mpr ⟨q, q1, q2, hy⟩) hz
        · exact Bool.not_eq_true _ ▸ hy
    rw [if_neg hh, if_pos hkc]
    by_cases hk : s_pc (s_kb (shE E p l) w (E.1 0 2).toNat) ≤ 1
    · rw [if_pos hk, if_neg]
      intro z
      obtain ⟨q, q1, q2, q3⟩ := (kw_iff hg).mp z
      rw [i2.mp hk q q1 q2] at q3
      cases q3
    · have hkw : (kwb (s_call (shE E p l)) (oth E p)).testBit w = true := by
        by_cases hz : (kwb (s_call (shE E p l)) (oth E p)).testBit w = true
        · exact hz
        · refine absurd (i2.mpr (fun q q1 q2 => ?_)) hk
          by_cases hy : (kpw (shE E p l) q).testBit w = true
          · exact absurd ((kw_iff hg).mpr ⟨q, q1, q2, hy⟩) hz
          · exact Bool.not_eq_true _ ▸ hy
      rw [if_neg hk, if_pos hkw]
theorem pin_sm {E : Ev} {p : Nat} : ∀ (l : List Nat) (t : Int), s_pin E p (-1) l t = t + sm (fun w => if (kpw E p).testBit w = true then s_worth E w else 0) l
  | [], t => by simp [s_pin, sm]
  | w :: r, t => by
    rw [s_pin, pin_sm r]
    show _ = t + ((if (kpw E p).testBit w = true then s_worth E w else 0) + _)
    by_cases h : (kpw E p).testBit w = true
    · rw [if_pos ⟨h, Or.inl rfl⟩, if_pos h]; omega
    · rw [if_neg (fun z => h z.1), if_neg h]; omega
theorem sm_sub {g : Nat → Int} {a l : List Nat} (h : List.Sublist a l) : l.Nodup → sm (fun w => if w ∈ a then g w else 0) l = sm g a := by
  induction h with
  | slnil => intro _; rfl
  | cons w hs ih =>
    intro hn
    have hn' := List.nodup_cons.mp hn
    show (if w ∈ _ then g w else 0) + _ = _
    rw [if_neg (fun z => hn'.1 (hs.subset z)), Int.zero_add]
    exact ih hn'.2
  | cons_cons w hs ih =>
    intro hn
    have hn' := List.nodup_cons.mp hn
    show (if w ∈ _ then g w else 0) + _ = g w + _
    rw [if_pos (List.mem_cons_self ..), ← ih hn'.2]
    congr 1
    refine sm_c _ (fun v hv => ?_)
    have hvw : v ≠ w := fun z => hn'.1 (z ▸ hv)
    simp only [List.mem_cons, hvw, false_or]
theorem vld_nd {E : Ev} {p : Nat} {l : List Nat} (h : vld E p l) : l.Nodup := h.2.imp (fun hab e => hab (by rw [e]))
theorem vld_cost {E : Ev} (hg : s_ok E) {p : Nat} {l : List Nat} (h : vld E p l) : ∀ w ∈ l, 1 ≤ s_cost E w := fun w hw => (s_cost_b (hg.2.1 w (h.1 w hw).2)).1
def val (E : Ev) (p : Nat) (l : List Nat) : Int := sm (gv E p (cl E p l)) (pf (s_cost E) (cl E p l) l 0)
theorem pts_T {E : Ev} (hg : s_ok E) {p : Nat} (hp : (p : Int) < E.1 0 2) {l : List Nat} (h : vld E p l) : pts (shE E p l) p (-1) = val E p l := by
  have hn := vld_nd h
  have hcs := vld_cost hg h
  have hcall := call_T hg hp h
  unfold pts val
  rw [shE_p, pin_sm, Int.zero_add, ← sm_sub (pf_sub l 0) hn]
  refine sm_c l (fun w hw => ?_)
  have hkp : (kpw (shE E p l) p).testBit w = true ↔ (w ∈ pf (s_cost E) (cl E p l) l 0 ∧ s_vote E w = true) := by
    rw [kpw_bit]
    unfold wrt
    rw [shE_p, shE_can, shE_cost, shE_vote, Bool.and_eq_true, Bool.and_eq_true, decide_eq_true_eq, wr_ws, hcall, ← ws_pf (can := s_can E p) l 0 (fun v hv => ⟨(h.1 v hv).1, hcs v hv⟩) hn]
    have e : (shE E p l).1 0 1 = E.1 0 1 := rfl
    rw [e]
    have hlt := (h.1 w hw).2
    constructor
    · rintro ⟨h1, h2, h3⟩
      refine ⟨?_, h3⟩
      rcases h2 with z | z
      · simp at z
      · exact z
    · rintro ⟨h1, h3⟩
      exact ⟨by omega, Or.inr h1, h3⟩
  by_cases hk : (kpw (shE E p l) p).testBit w = true
  · rw [if_pos hk, if_pos (hkp.mp hk).1, worth_T hg hp h hk, hcall]
    unfold gv
    rw [if_pos (hkp.mp hk).2]
  · rw [if_neg hk]
    by_cases hm : w ∈ pf (s_cost E) (cl E p l) l 0
    · rw [if_pos hm]
      unfold gv
      rw [if_neg (fun z => hk (hkp.mpr ⟨hm, z⟩))]
    · rw [if_neg hm]
/-- what is written of a sheet is worth as much alone -/
def prn (E : Ev) (p : Nat) (l : List Nat) : List Nat := (pf (s_cost E) (lim E p) l 0).take (E.1 1 1).toNat
theorem prn_ok {E : Ev} (hg : s_ok E) {p : Nat} {l : List Nat} (hc : ∀ w ∈ l, 1 ≤ s_cost E w) : cl E p (prn E p l) = cl E p l ∧ val E p (prn E p l) = val E p l ∧ (prn E p l).length ≤ (E.1 1 1).toNat ∧ sm (s_cost E) (prn E p l) ≤ lim E p ∧ List.Sublist (prn E p l) l := by
  have hl := lim_b hg (p := p)
  have hn := hg.1.2.2.2.2.1
  have hsub : List.Sublist (prn E p l) l := (List.take_sublist _ _).trans (pf_sub l 0)
  have hlen : (prn E p l).length ≤ (E.1 1 1).toNat := by unfold prn; rw [List.length_take]; exact Nat.min_le_left _ _
  have hcp : ∀ w ∈ prn E p l, 1 ≤ s_cost E w := fun w hw => hc w (hsub.subset hw)
  have hps := pf_sum (cost := s_cost E) (c := lim E p) l 0 (by omega)
  by_cases hA : (E.1 1 1).toNat ≤ l.length ∧ sm (s_cost E) (l.take (E.1 1 1).toNat) ≤ lim E p
  · have ht := pf_take (cost := s_cost E) (c := lim E p) l 0 (E.1 1 1).toNat hc hA.1 (by omega)
    have e : prn E p l = l.take (E.1 1 1).toNat := ht.2
    have hle : (prn E p l).length = (E.1 1 1).toNat := by rw [e, List.length_take]; omega
    have r1 : rdl E l = sm (s_cost E) (l.take (E.1 1 1).toNat) := if_pos hA.1
    have r2 : rdl E (prn E p l) = sm (s_cost E) (l.take (E.1 1 1).toNat) := by
      unfold rdl
      rw [if_pos (by omega), List.take_of_length_le (by omega), e]
    have hcl : cl E p (prn E p l) = cl E p l := by unfold cl; rw [r1, r2]
    have hcv : cl E p l = sm (s_cost E) (l.take (E.1 1 1).toNat) := by
      unfold cl
      rw [r1]
      by_cases z : sm (s_cost E) (l.take (E.1 1 1).toNat) < lim E p
      · rw [if_pos z]
      · rw [if_neg z]; omega
    refine ⟨hcl, ?_, hlen, by rw [e]; exact hA.2, hsub⟩
    unfold val
    rw [hcl, hcv]
    have p1 := pf_tk (cost := s_cost E) l 0 (E.1 1 1).toNat hc hA.1
    rw [Int.zero_add] at p1
    rw [p1, pf_all (prn E p l) 0 hcp (by rw [e]; omega), e]
  · have hshort : (pf (s_cost E) (lim E p) l 0).length < (E.1 1 1).toNat := by
      by_cases z : (pf (s_cost E) (lim E p) l 0).length < (E.1 1 1).toNat
      · exact z
      · exfalso
        refine hA ⟨Nat.le_trans (by omega) (pf_sub (cost := s_cost E) (c := lim E p) l 0).length_le, ?_⟩
        have key : ∀ (l : List Nat) (t : Int) (k : Nat), (∀ w ∈ l, 1 ≤ s_cost E w) → t ≤ lim E p → k ≤ (pf (s_cost E) (lim E p) l t).length → t + sm (s_cost E) (l.take k) ≤ lim E p := by
          intro l
          induction l with
          | nil => intro t k _ ht _; simp [sm]; exact ht
          | cons w r ih =>
            intro t k hc ht hk
            cases k with
            | zero => simp [sm]; exact ht
            | succ k =>
              unfold pf at hk
              by_cases hs : t + s_cost E w ≤ lim E p
              · rw [if_pos hs, List.length_cons] at hk
                have := ih (t + s_cost E w) k (fun v hv => hc v (List.mem_cons_of_mem _ hv)) hs (by omega)
                rw [List.take_succ_cons]
                show t + (s_cost E w + _) ≤ _
                omega
              · rw [if_neg hs] at hk
                simp at hk
        have := key l 0 (E.1 1 1).toNat hc (by omega) (by omega)
        omega
    have e : prn E p l = pf (s_cost E) (lim E p) l 0 := List.take_of_length_le (by omega)
    have r2 : rdl E (prn E p l) = 1000000 := if_neg (by rw [e]; omega)
    have c2 : cl E p (prn E p l) = lim E p := by unfold cl; rw [r2, if_neg (by omega)]
    have c1 : cl E p l = lim E p := by
      unfold cl rdl
      by_cases z : (E.1 1 1).toNat ≤ l.length
      · have : ¬ sm (s_cost E) (l.take (E.1 1 1).toNat) ≤ lim E p := fun y => hA ⟨z, y⟩
        rw [if_pos z, if_neg (by omega)]
      · rw [if_neg z, if_neg (by omega)]
    refine ⟨by rw [c1, c2], ?_, hlen, by rw [e]; omega, hsub⟩
    unfold val
    rw [c1, c2, pf_all (prn E p l) 0 hcp (by rw [e]; omega), e]
