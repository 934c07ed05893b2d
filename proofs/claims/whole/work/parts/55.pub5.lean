/-- columns in which people clash, of the first n words: bits -/
def s_cm (E : Ev) : Nat → Nat
  | 0 => 0
  | n + 1 => if 1 < s_pc (s_kb E n (E.1 0 2).toNat) then s_cm E n ||| 2 ^ (E.1 4 n).toNat else s_cm E n
theorem s_cm_lt {E : Ev} (hg : s_ok E) : ∀ n : Nat, (n : Int) ≤ E.1 0 1 → s_cm E n < 2 ^ (E.1 0 0).toNat
  | 0, _ => by simp [s_cm, Nat.two_pow_pos]
  | n + 1, h => by
    have ih := s_cm_lt hg n (by omega)
    have hw := (hg.2.1 n (by omega)).2.2.1
    unfold s_cm
    split
    · exact nu_orlt ih (by omega)
    · exact ih
theorem s_cm_lt5 {E : Ev} (hg : s_ok E) {n : Nat} (hn : (n : Int) ≤ E.1 0 1) : s_cm E n < 2 ^ 5 := Nat.lt_of_lt_of_le (s_cm_lt hg n hn) (Nat.pow_le_pow_right (by decide) (by have := hg.1.1; omega))
theorem ev_cm {E F : Ev} (h : evs E F) (hg : s_ok E) : ∀ n, n ≤ 24 → s_cm E n = s_cm F n
  | 0, _ => rfl
  | n + 1, hn => by simp only [s_cm]; rw [ev_cm h hg n (by omega), ← ev_pp h, ev_kb h hg _ (ok_pp hg), ev_r h 4 (by decide) (by decide) (show n < 24 by omega)]
theorem cm_bit {E : Ev} {c : Nat} : ∀ n, (s_cm E n).testBit c = true ↔ ∃ w, w < n ∧ 1 < s_pc (s_kb E w (E.1 0 2).toNat) ∧ (E.1 4 w).toNat = c
  | 0 => by simp [s_cm]
  | n + 1 => by
    have ih := cm_bit (E := E) (c := c) n
    rw [s_cm]
    by_cases h : 1 < s_pc (s_kb E n (E.1 0 2).toNat)
    · rw [if_pos h, or_bit, Bool.or_eq_true, ih, decide_eq_true_eq]
      constructor
      · rintro (⟨w, h1, h2, h3⟩ | h1)
        · exact ⟨w, by omega, h2, h3⟩
        · exact ⟨n, by omega, h, h1⟩
      · rintro ⟨w, h1, h2, h3⟩
        by_cases hw : w = n
        · subst hw
          exact Or.inr h3
        · exact Or.inl ⟨w, by omega, h2, h3⟩
    · rw [if_neg h, ih]
      constructor
      · rintro ⟨w, h1, h2, h3⟩
        exact ⟨w, by omega, h2, h3⟩
      · rintro ⟨w, h1, h2, h3⟩
        by_cases hw : w = n
        · subst hw
          exact absurd h2 h
        · exact ⟨w, by omega, h2, h3⟩
theorem pc_two' : ∀ m : Fin 16, (1 < s_pc m.val ↔ ∃ p : Fin 4, ∃ q : Fin 4, q.val < p.val ∧ m.val.testBit p.val = true ∧ m.val.testBit q.val = true) := by decide +kernel
/-- whether two people clash in a column, of pairs told so far -/
def clp (E : Ev) (c p q : Nat) : Prop := col1 E p (c : Int) ≠ -1 ∧ col1 E p (c : Int) = col1 E q (c : Int)
theorem cm_iff {E : Ev} (hg : s_ok E) {c : Nat} : (s_cm E (E.1 0 1).toNat).testBit c = true ↔ ∃ p q, q < p ∧ p < (E.1 0 2).toNat ∧ clp E c p q := by
  have hP := ok_pp hg
  rw [cm_bit]
  constructor
  · rintro ⟨w, h1, h2, h3⟩
    obtain ⟨p, q, hqp, hp, hq⟩ := (pc_two' ⟨_, s_kb_b hg hP⟩).mp h2
    rw [kb_bit, Bool.and_eq_true, decide_eq_true_eq] at hp hq
    have h4 := (hg.2.1 w (by omega)).2.2.1
    have ep := col1_some hg p.isLt hp.2 (show E.1 4 w = (c : Int) by omega)
    have eq := col1_some hg q.isLt hq.2 (show E.1 4 w = (c : Int) by omega)
    exact ⟨p.val, q.val, hqp, hp.1, by unfold clp; omega⟩
  · rintro ⟨p, q, hqp, hp, h1, h2⟩
    rcases col1_cases hg (q := p) (c := c) (by omega) with z | ⟨v, z1, z2, z3, z4⟩
    · exact absurd z.1 h1
    · rcases col1_cases hg (q := q) (c := c) (by omega) with y | ⟨u, y1, y2, y3, y4⟩
      · omega
      · have : u = v := by omega
        subst this
        refine ⟨u, (kpw_mem z2).1, ?_, by omega⟩
        exact (pc_two' ⟨_, s_kb_b hg hP⟩).mpr ⟨⟨p, by omega⟩, ⟨q, by omega⟩, hqp, by rw [kb_bit, z2]; simpa using hp, by rw [kb_bit, y2]; simp; omega⟩
theorem or_1 {x : Int} (h : x = 0 ∨ x = 1) : en_or x 1 = 1 := by rcases h with h | h <;> subst h <;> decide
theorem or_0 {x : Int} (h : x = 0 ∨ x = 1) : en_or x 0 = x := by rcases h with h | h <;> subst h <;> decide
theorem pcn_all {m k : Nat} (h : m < 2 ^ k) (hk : k ≤ 24) : s_pcn m k = s_pc m := by
  have key : ∀ n, k + n ≤ 24 → s_pcn m (k + n) = s_pcn m k := by
    intro n
    induction n with
    | zero => intro _; rfl
    | succ n ih =>
      intro hn
      rw [show k + (n + 1) = k + n + 1 by omega, s_pcn_s, ih (by omega), if_neg]
      · rfl
      · rw [Nat.testBit_lt_two_pow (Nat.lt_of_lt_of_le h (Nat.pow_le_pow_right (by decide) (by omega)))]
        decide
  have := key (24 - k) (by omega)
  rw [show k + (24 - k) = 24 by omega] at this
  exact this.symm
theorem L_clashesX {post : Option AV → Mm → Prop} (E : Ev) (M : Mm) (hI : isE M 1 E) (hO : isO M E) (hg : s_ok E) (hq : post (some (.inl ((s_pc (s_cm E (E.1 0 1).toNat) : Nat) : Int))) M) : ∀ (n : Nat) (i : Nat), (((i : Nat) : Int) + ((n : Nat) : Int) = E.1 0 1) → en_AW 9 0 109 post 15 [some (.inr (.inr (1, 5, 0))), some (.inl ((s_cm E i : Nat) : Int)), some (.inl ((i : Nat) : Int))] [] M 0 := by
  intro n
  induction n with
  | zero =>
    intro i hi
    obtain ⟨n0, n1, n2, a0, a1, a2, a3, a4, a5, a6, a7⟩ := hg.1
    have r0 : M.1 1 0 = E.1 0 0 := r0_I hI 0
    have r1 : M.1 1 1 = E.1 0 1 := r0_I hI 1
    have r2 : M.1 1 2 = E.1 0 2 := r0_I hI 2
    have hb := s_cm_lt5 hg (n := i) (by omega)
    refine aw_109_15 ?_
    refine br_ge_y (a := ((i : Nat) : Int)) (b := M.1 1 1) (by omega) (by omega) (by omega) ?_
    refine aw_109_65 ?_
    refine ⟨1, 0, by first | decide | omega, by first | decide | omega, en_Ct_eq (R_bitCount' ((s_cm E i : Nat) : Int) (by omega) (by omega) _) ?_⟩
    have pb2 := s_pc_b (n := (s_cm E i))
    rw [show (E.1 0 1).toNat = i by omega] at hq
    exact hq
  | succ n ih =>
    intro i hi
    obtain ⟨n0, n1, n2, a0, a1, a2, a3, a4, a5, a6, a7⟩ := hg.1
    have r0 : M.1 1 0 = E.1 0 0 := r0_I hI 0
    have r1 : M.1 1 1 = E.1 0 1 := r0_I hI 1
    have r2 : M.1 1 2 = E.1 0 2 := r0_I hI 2
    have hb := s_cm_lt5 hg (n := i) (by omega)
    have e4 : M.1 5 i = E.1 4 i := congrFun (hI.1 4 (by decide)) i
    obtain ⟨k1, k2, k3, k4, k5, k6, k7⟩ := hg.2.1 i (by omega)
    refine aw_109_15 ?_
    refine br_ge_n (a := ((i : Nat) : Int)) (b := M.1 1 1) (by omega) (by omega) (by omega) ?_
    refine ⟨1, 0, by first | decide | omega, by first | decide | omega, en_Ct_eq (X_kb (M := M) (e := 1) (E := E) hI hO hg (x := ((i : Nat) : Int)) (by omega) (by omega)) ?_⟩
    have kb2 := s_kb_b (E := E) (w := i) hg (n := (E.1 0 2).toNat) (by omega)
    refine ⟨1, 0, by first | decide | omega, by first | decide | omega, en_Ct_eq (R_bitCount' ((s_kb E i (E.1 0 2).toNat : Nat) : Int) (by omega) (by omega) _) ?_⟩
    have pb3 := s_pc_b (n := (s_kb E i (E.1 0 2).toNat))
    refine br_le (a := ((s_pc (s_kb E i (E.1 0 2).toNat) : Nat) : Int)) (b := 1) (by omega) (by omega) (fun q4 => ?_) (fun q4 => ?_)
    · refine aw_109_59 ?_
      refine en_AW_ls (congrArg (fun z_ : Int => ([some (.inr (.inr (1, 5, 0))), some (.inl z_), some (.inl (((i : Nat) : Int) + 1))] : AL)) (show ((s_cm E i : Nat) : Int) = ((s_cm E (i + 1) : Nat) : Int) from by rw [s_cm, if_neg (by omega)])) ?_
      exact ih (i + 1) (by omega)
    · refine ⟨i, rfl, (show i < 24 by omega), ?_⟩
      refine aw_109_59 ?_
      refine en_AW_ls (congrArg (fun z_ : Int => ([some (.inr (.inr (1, 5, 0))), some (.inl z_), some (.inl (((i : Nat) : Int) + 1))] : AL)) (show en_or ((s_cm E i : Nat) : Int) (en_shl 1 (M.1 5 i)) = ((s_cm E (i + 1) : Nat) : Int) from by rw [nu_orset (by omega) (by omega) (by omega), s_cm, if_pos (by omega), e4])) ?_
      exact ih (i + 1) (by omega)
theorem L_clashesM2 {post : Option AV → Mm → Prop} (E : Ev) (K : Mm) (hJ : isM K 84 E) (hK : isK K 84 E) (hg : s_ok E) (c : Nat) (hc : c < 5) (m : Int) (p : Nat) (hp : (p : Int) < E.1 0 2) : ∀ (n : Nat) (q : Nat) (x : Int), (q + n = p) → (x = 0 ∨ x = 1) → (x = 1 ↔ ∃ a d : Nat, d < a ∧ (a < p ∨ (a = p ∧ d < q)) ∧ clp E c a d) → (∀ y : Int, (y = 0 ∨ y = 1) → (y = 1 ↔ ∃ a d : Nat, d < a ∧ a < p + 1 ∧ clp E c a d) → en_AW 9 0 209 post 91 [some (.inr (.inr (1, 6, 84))), some (.inl m), some (.inl ((c : Nat) : Int)), some (.inl y), some (.inl ((p : Nat) : Int)), none, none] [] K 0) → en_AW 9 0 209 post 33 [some (.inr (.inr (1, 6, 84))), some (.inl m), some (.inl ((c : Nat) : Int)), some (.inl x), some (.inl ((p : Nat) : Int)), some (.inl ((q : Nat) : Int)), none] [] K 0 := by
  intro n
  induction n with
  | zero =>
    intro q x hj hx hxa hz
    obtain ⟨n0, n1, n2, a0, a1, a2, a3, a4, a5, a6, a7⟩ := hg.1
    have r0 : K.1 84 9 = E.1 0 0 := hJ.1.1
    have r1 : K.1 84 10 = E.1 0 1 := hJ.1.2.1
    have r2 : K.1 84 18 = E.1 0 2 := hJ.1.2.2.1
    refine aw_209_33 ?_
    refine br_ge_y (a := ((q : Nat) : Int)) (b := ((p : Nat) : Int)) (by omega) (by omega) (by omega) ?_
    refine en_AW_drop [true, true, true, true, true, false, true] ?_
    exact hz x hx (by rw [hxa]; exact ⟨fun ⟨a, d, z1, z2, z3⟩ => ⟨a, d, z1, by omega, z3⟩, fun ⟨a, d, z1, z2, z3⟩ => ⟨a, d, z1, by omega, z3⟩⟩)
  | succ n ih =>
    intro q x hj hx hxa hz
    obtain ⟨n0, n1, n2, a0, a1, a2, a3, a4, a5, a6, a7⟩ := hg.1
    have r0 : K.1 84 9 = E.1 0 0 := hJ.1.1
    have r1 : K.1 84 10 = E.1 0 1 := hJ.1.2.1
    have r2 : K.1 84 18 = E.1 0 2 := hJ.1.2.2.1
    refine aw_209_33 ?_
    refine br_ge_n (a := ((q : Nat) : Int)) (b := ((p : Nat) : Int)) (by omega) (by omega) (by omega) ?_
    refine ⟨p, rfl, (show p < 4 by omega), ?_⟩
    refine ⟨1, 0, by first | decide | omega, by first | decide | omega, en_Ct_eq (V_col1 (b := 84) (E := E) (M := K) hJ hK hg (q := p) (by omega) (c := ((c : Nat) : Int)) (by omega)) ?_⟩
    have cb2 := col1_b (q := p) (c := ((c : Nat) : Int)) hg
    have ch3 := col1_hm hg (q := p) (c := c) (by omega)
    refine br_eq (a := col1 E p ((c : Nat) : Int)) (b := (-1)) (by omega) (by omega) (fun q4 => ?_) (fun q4 => ?_)
    · refine aw_209_82 ?_
      refine aw_209_83 ?_
      refine en_AW_drop [true, true, true, true, true, true, false] ?_
      refine en_AW_ls (congrArg (fun z_ : Int => ([some (.inr (.inr (1, 6, 84))), some (.inl m), some (.inl ((c : Nat) : Int)), some (.inl z_), some (.inl ((p : Nat) : Int)), some (.inl (((q : Nat) : Int) + 1)), none] : AL)) (show en_or x 0 = x from or_0 hx)) ?_
      exact ih (q + 1) x (by omega) hx (by rw [hxa]; exact ⟨fun ⟨a, d, z1, z2, z3⟩ => ⟨a, d, z1, by omega, z3⟩, fun z0 => by
          obtain ⟨a, d, z1, z2, z3⟩ := z0
          clear hxa hz ih
          by_cases hh : a = p ∧ d = q
          · obtain ⟨rfl, rfl⟩ := hh
            unfold clp at z3
            omega
          · exact ⟨a, d, z1, by omega, z3⟩⟩) hz
    · refine ⟨q, rfl, (show q < 4 by omega), ?_⟩
      refine ⟨1, 0, by first | decide | omega, by first | decide | omega, en_Ct_eq (V_col1 (b := 84) (E := E) (M := K) hJ hK hg (q := q) (by omega) (c := ((c : Nat) : Int)) (by omega)) ?_⟩
      have cb5 := col1_b (q := q) (c := ((c : Nat) : Int)) hg
      have ch6 := col1_hm hg (q := q) (c := c) (by omega)
      refine br_ne (a := col1 E p ((c : Nat) : Int)) (b := col1 E q ((c : Nat) : Int)) (by omega) (by omega) (fun q7 => ?_) (fun q7 => ?_)
      · refine aw_209_82 ?_
        refine aw_209_83 ?_
        refine en_AW_drop [true, true, true, true, true, true, false] ?_
        refine en_AW_ls (congrArg (fun z_ : Int => ([some (.inr (.inr (1, 6, 84))), some (.inl m), some (.inl ((c : Nat) : Int)), some (.inl z_), some (.inl ((p : Nat) : Int)), some (.inl (((q : Nat) : Int) + 1)), none] : AL)) (show en_or x 0 = x from or_0 hx)) ?_
        exact ih (q + 1) x (by omega) hx (by rw [hxa]; exact ⟨fun ⟨a, d, z1, z2, z3⟩ => ⟨a, d, z1, by omega, z3⟩, fun z0 => by
            obtain ⟨a, d, z1, z2, z3⟩ := z0
            clear hxa hz ih
            by_cases hh : a = p ∧ d = q
            · obtain ⟨rfl, rfl⟩ := hh
              unfold clp at z3
              omega
            · exact ⟨a, d, z1, by omega, z3⟩⟩) hz
      · refine aw_209_83 ?_
        refine en_AW_drop [true, true, true, true, true, true, false] ?_
        refine en_AW_ls (congrArg (fun z_ : Int => ([some (.inr (.inr (1, 6, 84))), some (.inl m), some (.inl ((c : Nat) : Int)), some (.inl z_), some (.inl ((p : Nat) : Int)), some (.inl (((q : Nat) : Int) + 1)), none] : AL)) (show en_or x 1 = 1 from or_1 hx)) ?_
        exact ih (q + 1) 1 (by omega) (by omega) ⟨fun _ => ⟨p, q, by omega, by omega, by unfold clp; omega⟩, fun _ => rfl⟩ hz
theorem L_clashesM1 {post : Option AV → Mm → Prop} (E : Ev) (K : Mm) (hJ : isM K 84 E) (hK : isK K 84 E) (hg : s_ok E) (c : Nat) (hc : c < 5) (m : Int) : ∀ (n : Nat) (p : Nat) (x : Int), (((p : Nat) : Int) + ((n : Nat) : Int) = E.1 0 2) → (x = 0 ∨ x = 1) → (x = 1 ↔ ∃ a d : Nat, d < a ∧ a < p ∧ clp E c a d) → (∀ y : Int, (y = 0 ∨ y = 1) → (y = 1 ↔ ∃ a d : Nat, d < a ∧ a < (E.1 0 2).toNat ∧ clp E c a d) → en_AW 9 0 209 post 97 [some (.inr (.inr (1, 6, 84))), some (.inl m), some (.inl ((c : Nat) : Int)), some (.inl y), none, none, none] [] K 0) → en_AW 9 0 209 post 21 [some (.inr (.inr (1, 6, 84))), some (.inl m), some (.inl ((c : Nat) : Int)), some (.inl x), some (.inl ((p : Nat) : Int)), none, none] [] K 0 := by
  intro n
  induction n with
  | zero =>
    intro p x hj hx hxa hz
    obtain ⟨n0, n1, n2, a0, a1, a2, a3, a4, a5, a6, a7⟩ := hg.1
    have r0 : K.1 84 9 = E.1 0 0 := hJ.1.1
    have r1 : K.1 84 10 = E.1 0 1 := hJ.1.2.1
    have r2 : K.1 84 18 = E.1 0 2 := hJ.1.2.2.1
    refine aw_209_21 ?_
    refine br_ge_y (a := ((p : Nat) : Int)) (b := K.1 84 18) (by omega) (by omega) (by omega) ?_
    refine en_AW_drop [true, true, true, true, false, true, true] ?_
    exact hz x hx (by rw [show (E.1 0 2).toNat = p by omega]; exact hxa)
  | succ n ih =>
    intro p x hj hx hxa hz
    obtain ⟨n0, n1, n2, a0, a1, a2, a3, a4, a5, a6, a7⟩ := hg.1
    have r0 : K.1 84 9 = E.1 0 0 := hJ.1.1
    have r1 : K.1 84 10 = E.1 0 1 := hJ.1.2.1
    have r2 : K.1 84 18 = E.1 0 2 := hJ.1.2.2.1
    refine aw_209_21 ?_
    refine br_ge_n (a := ((p : Nat) : Int)) (b := K.1 84 18) (by omega) (by omega) (by omega) ?_
    refine L_clashesM2 E K hJ hK hg c hc m p (by omega) p 0 x (by omega) hx (by rw [hxa]; exact ⟨fun ⟨a, d, z1, z2, z3⟩ => ⟨a, d, z1, by omega, z3⟩, fun ⟨a, d, z1, z2, z3⟩ => ⟨a, d, z1, by omega, z3⟩⟩) (fun y hy hya => ?_)
    refine aw_209_91 ?_
    exact ih (p + 1) y (by omega) hy hya hz
theorem L_clashesM {post : Option AV → Mm → Prop} (E : Ev) (K : Mm) (hJ : isM K 84 E) (hK : isK K 84 E) (hg : s_ok E) (hq : post (some (.inl ((s_pc (s_cm E (E.1 0 1).toNat) : Nat) : Int))) K) : ∀ (n : Nat) (c : Nat), (((c : Nat) : Int) + ((n : Nat) : Int) = E.1 0 0) → en_AW 9 0 209 post 8 [some (.inr (.inr (1, 6, 84))), some (.inl ((s_pcn (s_cm E (E.1 0 1).toNat) c : Nat) : Int)), some (.inl ((c : Nat) : Int)), none, none, none, none] [] K 0 := by
  intro n
  induction n with
  | zero =>
    intro c hi
    obtain ⟨n0, n1, n2, a0, a1, a2, a3, a4, a5, a6, a7⟩ := hg.1
    have r0 : K.1 84 9 = E.1 0 0 := hJ.1.1
    have r1 : K.1 84 10 = E.1 0 1 := hJ.1.2.1
    have r2 : K.1 84 18 = E.1 0 2 := hJ.1.2.2.1
    refine aw_209_8 ?_
    refine br_ge_y (a := ((c : Nat) : Int)) (b := K.1 84 9) (by omega) (by omega) (by omega) ?_
    refine aw_209_115 ?_
    rw [← pcn_all (k := c) (by have := s_cm_lt hg (E.1 0 1).toNat (by omega); rw [show (E.1 0 0).toNat = c by omega] at this; exact this) (by omega)] at hq
    exact hq
  | succ n ih =>
    intro c hi
    obtain ⟨n0, n1, n2, a0, a1, a2, a3, a4, a5, a6, a7⟩ := hg.1
    have r0 : K.1 84 9 = E.1 0 0 := hJ.1.1
    have r1 : K.1 84 10 = E.1 0 1 := hJ.1.2.1
    have r2 : K.1 84 18 = E.1 0 2 := hJ.1.2.2.1
    have hb := s_pcn_le (s_cm E (E.1 0 1).toNat) c
    refine aw_209_8 ?_
    refine br_ge_n (a := ((c : Nat) : Int)) (b := K.1 84 9) (by omega) (by omega) (by omega) ?_
    refine L_clashesM1 E K hJ hK hg c (by omega) _ (E.1 0 2).toNat 0 0 (by omega) (by omega) ⟨fun z => by omega, fun ⟨a, d, z1, z2, z3⟩ => absurd z2 (Nat.not_lt_zero a)⟩ (fun y hy hya => ?_)
    refine aw_209_97 ?_
    refine br_eq (a := y) (b := 0) (by omega) (by omega) (fun q1 => ?_) (fun q1 => ?_)
    · refine aw_209_106 ?_
      refine aw_209_107 ?_
      refine en_AW_ls (congrArg (fun z_ : Int => ([some (.inr (.inr (1, 6, 84))), some (.inl z_), some (.inl (((c : Nat) : Int) + 1)), some (.inl y), none, none, none] : AL)) (show ((s_pcn (s_cm E (E.1 0 1).toNat) c : Nat) : Int) + 0 = ((s_pcn (s_cm E (E.1 0 1).toNat) (c + 1) : Nat) : Int) from by rw [s_pcn_s, if_neg (by rw [cm_iff hg, ← hya]; omega)]; rfl)) ?_
      refine en_AW_drop [true, true, true, false, true, true, true] ?_
      exact ih (c + 1) (by omega)
    · refine aw_209_107 ?_
      refine en_AW_ls (congrArg (fun z_ : Int => ([some (.inr (.inr (1, 6, 84))), some (.inl z_), some (.inl (((c : Nat) : Int) + 1)), some (.inl y), none, none, none] : AL)) (show ((s_pcn (s_cm E (E.1 0 1).toNat) c : Nat) : Int) + 1 = ((s_pcn (s_cm E (E.1 0 1).toNat) (c + 1) : Nat) : Int) from by rw [s_pcn_s, if_pos (by rw [cm_iff hg, ← hya]; omega)]; rfl)) ?_
      refine en_AW_drop [true, true, true, false, true, true, true] ?_
      exact ih (c + 1) (by omega)
def a_clashes (E : Ev)  : Nat × Int := (0, ((s_pc (s_cm E (E.1 0 1).toNat) : Nat) : Int))
theorem PX_clashes (E : Ev) (M : Mm) (hI : isE M 1 E) (hg : s_ok E)   : en_Ct 9 0 109 [.inr (.inr (1, 5, 0))] M (fun r M' => r = some (.inl (a_clashes E ).2) ∧ sX (aX M (a_clashes E ).1) M') := by
  obtain ⟨n0, n1, n2, a0, a1, a2, a3, a4, a5, a6, a7⟩ := hg.1
  have r0 : M.1 1 0 = E.1 0 0 := r0_I hI 0
  have r1 : M.1 1 1 = E.1 0 1 := r0_I hI 1
  have r2 : M.1 1 2 = E.1 0 2 := r0_I hI 2
  refine ct_109 rfl ?_
  refine aw_109_0 ?_
  refine ⟨4, 0, by first | decide | omega, by first | decide | omega, en_Ct_mono (R_reckon 1 E M hI hg (by omega)) ?_⟩
  rintro _ K1 ⟨rfl, hf, hO⟩
  replace hI := isE_o hI hf (Or.inl (by omega))
  refine L_clashesX E K1 hI hO hg ?_ (E.1 0 1).toNat 0 (by omega)
  have ha : a_clashes E  = (0, ((s_pc (s_cm E (E.1 0 1).toNat) : Nat) : Int)) := by
    unfold a_clashes
    repeat first | rw [if_pos (by omega)] | rw [if_neg (by omega)]
    first | done | rfl | (rfl)
  rw [ha]
  exact ⟨rfl, sX_fr hf (by decide) (by decide)⟩
theorem PM_clashes (E : Ev) (M : Mm) (hJ : isM M 84 E) (hg : s_ok E)   : en_Ct 9 0 209 [.inr (.inr (1, 6, 84))] M (fun r M' => r = some (.inl (a_clashes E ).2) ∧ sM (aM M (a_clashes E ).1) M') := by
  obtain ⟨n0, n1, n2, a0, a1, a2, a3, a4, a5, a6, a7⟩ := hg.1
  have r0 : M.1 84 9 = E.1 0 0 := hJ.1.1
  have r1 : M.1 84 10 = E.1 0 1 := hJ.1.2.1
  have r2 : M.1 84 18 = E.1 0 2 := hJ.1.2.2.1
  refine ct_209 rfl ?_
  refine aw_209_0 ?_
  refine ⟨5, 0, by first | decide | omega, by first | decide | omega, en_Ct_mono (R_findKept 84 E M hJ hg) ?_⟩
  rintro _ K1 ⟨rfl, hf, hK⟩
  replace hJ := isM_k hJ hf
  refine L_clashesM E K1 hJ hK hg ?_ (E.1 0 0).toNat 0 (by omega)
  have ha : a_clashes E  = (0, ((s_pc (s_cm E (E.1 0 1).toNat) : Nat) : Int)) := by
    unfold a_clashes
    repeat first | rw [if_pos (by omega)] | rw [if_neg (by omega)]
    first | done | rfl | (rfl)
  rw [ha]
  exact ⟨rfl, sM_fr hf (by decide) (by decide)⟩
theorem ea_clashes {E F : Ev} (h : evs E F) (hg : s_ok E)  : a_clashes E  = a_clashes F  := by
  have hb := hg.1.2.2.1
  have hw := hg.1.2.1
  unfold a_clashes
  rw [← ev_ww h, ev_cm h hg _ (ok_ww hg)]
