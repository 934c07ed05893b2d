/-! the best sheet: the class's weighing -/
def isCc (K : Mm) (E : Ev) (l : List Nat) : Prop := ∀ k, k < l.length → K.1 55 k = ((2 ^ (E.1 4 (l.getD k 0)).toNat : Nat) : Int) ∧ K.1 56 k = if s_vote E (l.getD k 0) = true then 1 else 0
def isBS (K : Mm) (E : Ev) (p : Nat) : Prop := (K.1 52 3 = E.1 1 1 ∧ K.1 52 4 = lim E p ∧ K.1 52 5 = E.1 1 3 ∧ K.1 52 6 = E.1 1 4 ∧ K.1 52 7 = E.1 1 5) ∧ isLn K E (lin E p) ∧ isCc K E (lin E p) ∧ isOw K E (oth E p)
def chO (K : Mm) (E : Ev) (p : Nat) (l : List Nat) : Prop := ∀ k, k < l.length → ∃ j, j < (lin E p).length ∧ K.1 57 k = ((j : Nat) : Int) ∧ (lin E p).getD j 0 = l.getD k 0
/-- but for the best so far the same -/
def frW (M K : Mm) : Prop := (∀ a, a ≠ 52 → K.1 a = M.1 a) ∧ (∀ i, 3 ≤ i → K.1 52 i = M.1 52 i) ∧ K.2 = M.2
def isS (K : Mm) (s : Int × Nat × Int) : Prop := K.1 52 0 = s.1 ∧ K.1 52 1 = ((s.2.1 : Nat) : Int) ∧ K.1 52 2 = s.2.2
def sB (s : Int × Nat × Int) : Prop := (0 ≤ s.1 ∧ s.1 ≤ 250) ∧ s.2.1 < 2 ^ 24
theorem isBS_fr {M K : Mm} {E : Ev} {p : Nat} (h : isBS M E p) (h1 : ∀ a, a ≠ 52 → a ≠ 57 → K.1 a = M.1 a) (h2 : ∀ i, 3 ≤ i → K.1 52 i = M.1 52 i) : isBS K E p := by
  unfold isBS isLn isCc isOw at h ⊢
  rw [h2 3 (by decide), h2 4 (by decide), h2 5 (by decide), h2 6 (by decide), h2 7 (by decide), h2 8 (by decide), h2 14 (by decide), h1 53 (by decide) (by decide), h1 54 (by decide) (by decide), h1 55 (by decide) (by decide), h1 56 (by decide) (by decide), h1 58 (by decide) (by decide), h1 59 (by decide) (by decide), h1 60 (by decide) (by decide)]
  exact h
theorem tk_n : ∀ (l : List Nat) (i : Nat), i < l.length → l.take (i + 1) = l.take i ++ [l.getD i 0]
  | [], i, h => by simp at h
  | a :: r, 0, _ => rfl
  | a :: r, i + 1, h => by
    rw [List.take_succ_cons, List.take_succ_cons, tk_n r i (by simpa using h)]
    rfl
theorem tk_o : ∀ (l : List (Nat × Int)) (i : Nat), i < l.length → l.take (i + 1) = l.take i ++ [l.getD i (0, 0)]
  | [], i, h => by simp at h
  | a :: r, 0, _ => rfl
  | a :: r, i + 1, h => by
    rw [List.take_succ_cons, List.take_succ_cons, tk_o r i (by simpa using h)]
    rfl
theorem kwb_app {c : Int} : ∀ (l r : List (Nat × Int)), kwb c (l ++ r) = kwb c l ||| kwb c r
  | [], r => by simp [kwb]
  | a :: l, r => by
    show _ ||| kwb c (l ++ r) = (_ ||| kwb c l) ||| kwb c r
    rw [kwb_app l r, Nat.or_assoc]
theorem kcb_app {E : Ev} {c : Int} : ∀ (l r : List (Nat × Int)), kcb E c (l ++ r) = kcb E c l ||| kcb E c r
  | [], r => by simp [kcb]
  | a :: l, r => by
    show _ ||| kcb E c (l ++ r) = (_ ||| kcb E c l) ||| kcb E c r
    rw [kcb_app l r, Nat.or_assoc]
theorem kwb_lt {c : Int} : ∀ (l : List (Nat × Int)), (∀ x ∈ l, x.1 < 24) → kwb c l < 2 ^ 24
  | [], _ => Nat.two_pow_pos 24
  | a :: l, h => by
    unfold kwb
    refine Nat.or_lt_two_pow ?_ (kwb_lt l (fun x hx => h x (List.mem_cons_of_mem _ hx)))
    split
    · exact Nat.pow_lt_pow_right (by decide) (h a (List.mem_cons_self ..))
    · decide
theorem kcb_lt {E : Ev} {c : Int} : ∀ (l : List (Nat × Int)), (∀ x ∈ l, (E.1 4 x.1).toNat < 24) → kcb E c l < 2 ^ 24
  | [], _ => Nat.two_pow_pos 24
  | a :: l, h => by
    unfold kcb
    refine Nat.or_lt_two_pow ?_ (kcb_lt l (fun x hx => h x (List.mem_cons_of_mem _ hx)))
    split
    · exact Nat.pow_lt_pow_right (by decide) (h a (List.mem_cons_self ..))
    · decide
theorem getD_memo {l : List (Nat × Int)} {i : Nat} (h : i < l.length) : l.getD i (0, 0) ∈ l := by
  rw [List.getD_eq_getElem?_getD, List.getElem?_eq_getElem h]
  exact List.getElem_mem h
theorem oth_b {E : Ev} (hg : s_ok E) {p : Nat} : ∀ x ∈ oth E p, (x.1 < 24 ∧ (x.1 : Int) < E.1 0 1) ∧ (E.1 4 x.1).toNat < 24 ∧ (0 < x.2 ∧ x.2 ≤ 370) := by
  intro x hx
  obtain ⟨q, q1, q2, q3, q4⟩ := (owl_mem _).mp hx
  have h4 := ok_pp hg
  have hq4 : q < 4 := by omega
  have hm := ws_ge (s_shl E q) 0 (fun v hv _ => (s_cost_b (hg.2.1 v (shl_w hg hq4 v hv))).1) (show (x.1, x.2) ∈ _ from q3)
  have hw := shl_w hg hq4 x.1 hm.2
  have hc := (hg.2.1 x.1 hw).2.2.1
  have h1 := hg.1.2.1
  have h0 := hg.1.1
  have key : ∀ (l : List Nat) (t : Int), (∀ w ∈ l, (w : Int) < E.1 0 1) → ∀ y ∈ ws_ (s_can E q) (s_cost E) l t, y.2 ≤ t + 74 * (l.length : Int) := by
    intro l
    induction l with
    | nil => intro t _ y hy; simp [ws_] at hy
    | cons w r ih =>
      intro t hl y hy
      have hr : ∀ v ∈ r, (v : Int) < E.1 0 1 := fun v hv => hl v (List.mem_cons_of_mem _ hv)
      have cb := s_cost_b (hg.2.1 w (hl w (List.mem_cons_self ..)))
      unfold ws_ at hy
      rw [List.length_cons]
      split at hy
      · rcases List.mem_cons.mp hy with z | z
        · subst z
          dsimp only
          omega
        · have := ih (t + s_cost E w) hr y z
          omega
      · have := ih t hr y hy
        omega
  have hk := key (s_shl E q) 0 (shl_w hg hq4) x q3
  have h5 := shl_le5 hg hq4
  omega
theorem oth_len {E : Ev} (hg : s_ok E) {p : Nat} : (oth E p).length ≤ 20 := Nat.le_trans (owl_len hg _ (ok_pp hg)) (by have := ok_pp hg; omega)
theorem and_p {a c : Nat} : a &&& 2 ^ c = 0 ↔ ¬ a.testBit c = true := by
  constructor
  · intro h z
    have := congrArg (fun n => n.testBit c) h
    simp only [Nat.testBit_and, Nat.testBit_two_pow, z] at this
    simp at this
  · intro h
    refine Nat.eq_of_testBit_eq (fun j => ?_)
    rw [Nat.testBit_and, Nat.testBit_two_pow]
    by_cases hj : c = j
    · subst hj
      simp [h]
    · simp [hj]
theorem L_pa1 {post : Option AV → Mm → Prop} (E : Ev) (M : Mm) (p : Nat) (hB : isBS M E p) (hg : s_ok E) (size sec : Int) (hsec : -2147483648 ≤ sec ∧ sec < 2147483648) (hx : en_AW 1 0 7 post 56 [some (.inr (.inr (1, 0, 52))), some (.inl size), some (.inl sec), some (.inl ((kwb sec (oth E p) : Nat) : Int)), some (.inl ((kcb E sec (oth E p) : Nat) : Int)), none, none, none, none, none] [] M 0) : ∀ (n : Nat) (i : Nat), (i + n = (oth E p).length) → en_AW 1 0 7 post 8 [some (.inr (.inr (1, 0, 52))), some (.inl size), some (.inl sec), some (.inl ((kwb sec ((oth E p).take i) : Nat) : Int)), some (.inl ((kcb E sec ((oth E p).take i) : Nat) : Int)), some (.inl ((i : Nat) : Int)), none, none, none, none] [] M 0 := by
  intro n
  induction n with
  | zero =>
    intro i hi
    obtain ⟨n0, n1, n2, a0, a1, a2, a3, a4, a5, a6, a7⟩ := hg.1
    obtain ⟨⟨b3, b4, b5, b6, b7⟩, hLn, hCc, hOw⟩ := id hB
    have lb := lim_b hg (p := p)
    have ol := oth_len hg (p := p)
    have h14 := hOw.1
    have h8 := hLn.1
    have ll : (lin E p).length ≤ 24 := Nat.le_trans (lnp_len _) (by omega)
    refine aw_7_8 ?_
    refine br_ge_y (a := ((i : Nat) : Int)) (b := M.1 52 14) (by omega) (by omega) (by omega) ?_
    refine en_AW_drop [true, true, true, true, true, false, true, true, true, true] ?_
    rw [List.take_of_length_le (by omega)]
    exact hx
  | succ n ih =>
    intro i hi
    obtain ⟨n0, n1, n2, a0, a1, a2, a3, a4, a5, a6, a7⟩ := hg.1
    obtain ⟨⟨b3, b4, b5, b6, b7⟩, hLn, hCc, hOw⟩ := id hB
    have lb := lim_b hg (p := p)
    have ol := oth_len hg (p := p)
    have h14 := hOw.1
    have h8 := hLn.1
    have ll : (lin E p).length ≤ 24 := Nat.le_trans (lnp_len _) (by omega)
    have hmo := oth_b hg _ (getD_memo (l := oth E p) (i := i) (by omega))
    obtain ⟨o58, o59, o60⟩ := hOw.2 i (by omega)
    have kl := kwb_lt (c := sec) ((oth E p).take i) (fun x hx => (oth_b hg x (List.mem_of_mem_take hx)).1.1)
    have kcl := kcb_lt (E := E) (c := sec) ((oth E p).take i) (fun x hx => (oth_b hg x (List.mem_of_mem_take hx)).2.1)
    refine aw_7_8 ?_
    refine br_ge_n (a := ((i : Nat) : Int)) (b := M.1 52 14) (by omega) (by omega) (by omega) ?_
    refine ⟨i, rfl, (show i < 20 by omega), ?_⟩
    refine br_gt (a := M.1 60 i) (b := sec) (by omega) (by omega) (fun q2 => ?_) (fun q2 => ?_)
    · refine aw_7_50 ?_
      refine en_AW_ls (congrArg (fun z_ : Int => ([some (.inr (.inr (1, 0, 52))), some (.inl size), some (.inl sec), some (.inl z_), some (.inl ((kcb E sec ((oth E p).take i) : Nat) : Int)), some (.inl (((i : Nat) : Int) + 1)), none, none, none, none] : AL)) (show ((kwb sec ((oth E p).take i) : Nat) : Int) = ((kwb sec ((oth E p).take (i + 1)) : Nat) : Int) from by rw [tk_o _ _ (by omega), kwb_app]; refine congrArg (fun z : Nat => (z : Int)) ?_; show _ = _ ||| kwb sec [_]; rw [kwb, kwb]; rw [if_neg (by omega), Nat.or_zero, Nat.or_zero])) ?_
      refine en_AW_ls (congrArg (fun z_ : Int => ([some (.inr (.inr (1, 0, 52))), some (.inl size), some (.inl sec), some (.inl ((kwb sec ((oth E p).take (i + 1)) : Nat) : Int)), some (.inl z_), some (.inl (((i : Nat) : Int) + 1)), none, none, none, none] : AL)) (show ((kcb E sec ((oth E p).take i) : Nat) : Int) = ((kcb E sec ((oth E p).take (i + 1)) : Nat) : Int) from by rw [tk_o _ _ (by omega), kcb_app]; refine congrArg (fun z : Nat => (z : Int)) ?_; show _ = _ ||| kcb E sec [_]; rw [kcb, kcb]; rw [if_neg (by omega), Nat.or_zero, Nat.or_zero])) ?_
      exact ih (i + 1) (by omega)
    · refine ⟨i, rfl, (show i < 20 by omega), ?_⟩
      refine ⟨i, rfl, (show i < 20 by omega), ?_⟩
      refine aw_7_50 ?_
      refine en_AW_ls (congrArg (fun z_ : Int => ([some (.inr (.inr (1, 0, 52))), some (.inl size), some (.inl sec), some (.inl z_), some (.inl (en_or ((kcb E sec ((oth E p).take i) : Nat) : Int) (M.1 59 i))), some (.inl (((i : Nat) : Int) + 1)), none, none, none, none] : AL)) (show en_or ((kwb sec ((oth E p).take i) : Nat) : Int) (M.1 58 i) = ((kwb sec ((oth E p).take (i + 1)) : Nat) : Int) from by rw [o58, nu_or (by omega) (Nat.pow_lt_pow_right (by decide) (by omega)), tk_o _ _ (by omega), kwb_app]; refine congrArg (fun z : Nat => ((_ ||| z : Nat) : Int)) ?_; show _ = kwb sec [_]; rw [kwb, kwb]; rw [if_pos (by omega), Nat.or_zero])) ?_
      refine en_AW_ls (congrArg (fun z_ : Int => ([some (.inr (.inr (1, 0, 52))), some (.inl size), some (.inl sec), some (.inl ((kwb sec ((oth E p).take (i + 1)) : Nat) : Int)), some (.inl z_), some (.inl (((i : Nat) : Int) + 1)), none, none, none, none] : AL)) (show en_or ((kcb E sec ((oth E p).take i) : Nat) : Int) (M.1 59 i) = ((kcb E sec ((oth E p).take (i + 1)) : Nat) : Int) from by rw [o59, nu_or (by omega) (Nat.pow_lt_pow_right (by decide) (by omega)), tk_o _ _ (by omega), kcb_app]; refine congrArg (fun z : Nat => ((_ ||| z : Nat) : Int)) ?_; show _ = kcb E sec [_]; rw [kcb, kcb]; rw [if_pos (by omega), Nat.or_zero])) ?_
      exact ih (i + 1) (by omega)
theorem L_pa2 {post : Option AV → Mm → Prop} (E : Ev) (M : Mm) (p : Nat) (hB : isBS M E p) (hg : s_ok E) (l : List Nat) (hl5 : l.length ≤ 5) (hch : chO M E p l) (sec : Int) (hsec : -2147483648 ≤ sec ∧ sec < 2147483648) (hq : post (some (.inl (sm (gv E p sec) l))) M) : ∀ (n : Nat) (i : Nat), (i + n = l.length) → en_AW 1 0 7 post 62 [some (.inr (.inr (1, 0, 52))), some (.inl ((l.length : Nat) : Int)), some (.inl sec), some (.inl ((kwb sec (oth E p) : Nat) : Int)), some (.inl ((kcb E sec (oth E p) : Nat) : Int)), some (.inl (sm (gv E p sec) (l.take i))), some (.inl ((i : Nat) : Int)), none, none, none] [] M 0 := by
  intro n
  induction n with
  | zero =>
    intro i hi
    obtain ⟨n0, n1, n2, a0, a1, a2, a3, a4, a5, a6, a7⟩ := hg.1
    obtain ⟨⟨b3, b4, b5, b6, b7⟩, hLn, hCc, hOw⟩ := id hB
    have lb := lim_b hg (p := p)
    have ol := oth_len hg (p := p)
    have h14 := hOw.1
    have h8 := hLn.1
    have ll : (lin E p).length ≤ 24 := Nat.le_trans (lnp_len _) (by omega)
    refine aw_7_62 ?_
    refine br_ge_y (a := ((i : Nat) : Int)) (b := ((l.length : Nat) : Int)) (by omega) (by omega) (by omega) ?_
    refine aw_7_167 ?_
    rw [List.take_of_length_le (by omega)]
    exact hq
  | succ n ih =>
    intro i hi
    obtain ⟨n0, n1, n2, a0, a1, a2, a3, a4, a5, a6, a7⟩ := hg.1
    obtain ⟨⟨b3, b4, b5, b6, b7⟩, hLn, hCc, hOw⟩ := id hB
    have lb := lim_b hg (p := p)
    have ol := oth_len hg (p := p)
    have h14 := hOw.1
    have h8 := hLn.1
    have ll : (lin E p).length ≤ 24 := Nat.le_trans (lnp_len _) (by omega)
    obtain ⟨j, hj, ej, ew⟩ := hch i (by omega)
    have etn : (M.1 57 i).toNat = j := by omega
    obtain ⟨c55, c56⟩ := hCc j hj
    have l53 := (hLn.2 j hj).1
    rw [ew] at c55 c56 l53
    have hm := lin_mem.mp (getD_mem hj)
    rw [ew] at hm
    have cb := (hg.2.1 (l.getD i 0) (by omega)).2.2.1
    have kl := kwb_lt (c := sec) (oth E p) (fun x hx => (oth_b hg x hx).1.1)
    have kcl := kcb_lt (E := E) (c := sec) (oth E p) (fun x hx => (oth_b hg x hx).2.1)
    have d56 : M.1 56 (M.1 57 i).toNat = if s_vote E (l.getD i 0) = true then 1 else 0 := by rw [etn]; exact c56
    have v01 : (s_vote E (l.getD i 0) = true ∧ M.1 56 (M.1 57 i).toNat = 1) ∨ (¬ s_vote E (l.getD i 0) = true ∧ M.1 56 (M.1 57 i).toNat = 0) := by
      by_cases z : s_vote E (l.getD i 0) = true
      · rw [if_pos z] at d56; exact Or.inl ⟨z, d56⟩
      · rw [if_neg z] at d56; exact Or.inr ⟨z, d56⟩
    have dcc : (¬ (kcb E sec (oth E p)).testBit (E.1 4 (l.getD i 0)).toNat = true ∧ en_and ((kcb E sec (oth E p) : Nat) : Int) (M.1 55 (M.1 57 i).toNat) = 0) ∨ ((kcb E sec (oth E p)).testBit (E.1 4 (l.getD i 0)).toNat = true ∧ 0 < en_and ((kcb E sec (oth E p) : Nat) : Int) (M.1 55 (M.1 57 i).toNat) ∧ en_and ((kcb E sec (oth E p) : Nat) : Int) (M.1 55 (M.1 57 i).toNat) < 2147483648) := by
      have h2 : (2 : Nat) ^ (E.1 4 (l.getD i 0)).toNat < 2 ^ 24 := Nat.pow_lt_pow_right (by decide) (by omega)
      rw [etn, c55, nu_and (by omega) (by omega)]
      have h3 : kcb E sec (oth E p) &&& 2 ^ (E.1 4 (l.getD i 0)).toNat < 2 ^ 24 := Nat.and_lt_two_pow _ h2
      by_cases z : (kcb E sec (oth E p)).testBit (E.1 4 (l.getD i 0)).toNat = true
      · right
        have h4 : kcb E sec (oth E p) &&& 2 ^ (E.1 4 (l.getD i 0)).toNat ≠ 0 := fun y => and_p.mp y z
        exact ⟨z, by omega, by omega⟩
      · left
        exact ⟨z, by rw [and_p.mpr z]; rfl⟩
    have dkw : ((kwb sec (oth E p)).testBit (l.getD i 0) = true ∧ en_and (en_shr ((kwb sec (oth E p) : Nat) : Int) (M.1 53 (M.1 57 i).toNat)) 1 = 1) ∨ (¬ (kwb sec (oth E p)).testBit (l.getD i 0) = true ∧ en_and (en_shr ((kwb sec (oth E p) : Nat) : Int) (M.1 53 (M.1 57 i).toNat)) 1 = 0) := by
      rw [etn, l53, nu_bit (by omega) (by omega)]
      by_cases z : (kwb sec (oth E p)).testBit (l.getD i 0) = true
      · rw [if_pos z]; exact Or.inl ⟨z, rfl⟩
      · rw [if_neg z]; exact Or.inr ⟨z, rfl⟩
    have hwr : 0 ≤ M.1 53 (M.1 57 i).toNat ∧ M.1 53 (M.1 57 i).toNat < 24 := by rw [etn, l53]; omega
    have hvT : M.1 56 (M.1 57 i).toNat ≠ 0 → s_vote E (l.getD i 0) = true := fun z => by
      rcases v01 with y | y
      · exact y.1
      · exact absurd y.2 z
    have hvF : M.1 56 (M.1 57 i).toNat = 0 → ¬ s_vote E (l.getD i 0) = true := fun z => by
      rcases v01 with y | y
      · omega
      · exact y.1
    have hcF : en_and ((kcb E sec (oth E p) : Nat) : Int) (M.1 55 (M.1 57 i).toNat) = 0 → ¬ (kcb E sec (oth E p)).testBit (E.1 4 (l.getD i 0)).toNat = true := fun z => by
      rcases dcc with y | y
      · exact y.1
      · omega
    have hcT : en_and ((kcb E sec (oth E p) : Nat) : Int) (M.1 55 (M.1 57 i).toNat) ≠ 0 → (kcb E sec (oth E p)).testBit (E.1 4 (l.getD i 0)).toNat = true := fun z => by
      rcases dcc with y | y
      · exact absurd y.2 z
      · exact y.1
    have hkF : en_and (en_shr ((kwb sec (oth E p) : Nat) : Int) (M.1 53 (M.1 57 i).toNat)) 1 = 0 → ¬ (kwb sec (oth E p)).testBit (l.getD i 0) = true := fun z => by
      rcases dkw with y | y
      · omega
      · exact y.1
    have hkT : en_and (en_shr ((kwb sec (oth E p) : Nat) : Int) (M.1 53 (M.1 57 i).toNat)) 1 ≠ 0 → (kwb sec (oth E p)).testBit (l.getD i 0) = true := fun z => by
      rcases dkw with y | y
      · exact y.1
      · exact absurd y.2 z
    have vb : 0 ≤ M.1 56 (M.1 57 i).toNat ∧ M.1 56 (M.1 57 i).toNat ≤ 1 := by
      rcases v01 with y | y
      · omega
      · omega
    have cbb : 0 ≤ en_and ((kcb E sec (oth E p) : Nat) : Int) (M.1 55 (M.1 57 i).toNat) ∧ en_and ((kcb E sec (oth E p) : Nat) : Int) (M.1 55 (M.1 57 i).toNat) < 2147483648 := by
      rcases dcc with y | y
      · omega
      · omega
    have kbb : 0 ≤ en_and (en_shr ((kwb sec (oth E p) : Nat) : Int) (M.1 53 (M.1 57 i).toNat)) 1 ∧ en_and (en_shr ((kwb sec (oth E p) : Nat) : Int) (M.1 53 (M.1 57 i).toNat)) 1 ≤ 1 := by
      rcases dkw with y | y
      · omega
      · omega
    have g0 : M.1 56 (M.1 57 i).toNat = 0 → gv E p sec (l.getD i 0) = 0 := fun z => if_neg (hvF z)
    have g5 : M.1 56 (M.1 57 i).toNat ≠ 0 → en_and ((kcb E sec (oth E p) : Nat) : Int) (M.1 55 (M.1 57 i).toNat) = 0 → gv E p sec (l.getD i 0) = E.1 1 3 := fun z1 z2 => by
      unfold gv wta
      rw [if_pos (hvT z1), if_neg (hcF z2)]
    have g6 : M.1 56 (M.1 57 i).toNat ≠ 0 → en_and ((kcb E sec (oth E p) : Nat) : Int) (M.1 55 (M.1 57 i).toNat) ≠ 0 → en_and (en_shr ((kwb sec (oth E p) : Nat) : Int) (M.1 53 (M.1 57 i).toNat)) 1 = 0 → gv E p sec (l.getD i 0) = E.1 1 4 := fun z1 z2 z3 => by
      unfold gv wta
      rw [if_pos (hvT z1), if_pos (hcT z2), if_neg (hkF z3)]
    have g7 : M.1 56 (M.1 57 i).toNat ≠ 0 → en_and ((kcb E sec (oth E p) : Nat) : Int) (M.1 55 (M.1 57 i).toNat) ≠ 0 → en_and (en_shr ((kwb sec (oth E p) : Nat) : Int) (M.1 53 (M.1 57 i).toNat)) 1 ≠ 0 → gv E p sec (l.getD i 0) = E.1 1 5 := fun z1 z2 z3 => by
      unfold gv wta
      rw [if_pos (hvT z1), if_pos (hcT z2), if_pos (hkT z3)]
    refine aw_7_62 ?_
    refine br_ge_n (a := ((i : Nat) : Int)) (b := ((l.length : Nat) : Int)) (by omega) (by omega) (by omega) ?_
    refine ⟨i, rfl, (show i < 5 by omega), ?_⟩
    refine ⟨(M.1 57 i).toNat, it_nn (x := M.1 57 i) (by omega), (show (M.1 57 i).toNat < 24 by omega), ?_⟩
    refine br_eq (a := M.1 56 ((M.1 57 i).toNat)) (b := 0) (by omega) (by omega) (fun q2 => ?_) (fun q2 => ?_)
    · refine aw_7_161 ?_
      refine en_AW_drop [true, true, true, true, true, true, true, false, false, false] ?_
      first
        | exfalso
          omega
        | refine en_AW_ls (congrArg (fun z_ : Int => ([some (.inr (.inr (1, 0, 52))), some (.inl ((l.length : Nat) : Int)), some (.inl sec), some (.inl ((kwb sec (oth E p) : Nat) : Int)), some (.inl ((kcb E sec (oth E p) : Nat) : Int)), some (.inl z_), some (.inl (((i : Nat) : Int) + 1)), none, none, none] : AL)) (show sm (gv E p sec) (l.take i) = sm (gv E p sec) (l.take (i + 1)) from by rw [tk_n _ _ (by omega), sm_app, show sm (gv E p sec) [l.getD i 0] = gv E p sec (l.getD i 0) + 0 from rfl, g0 (by omega)]; omega)) ?_
          exact ih (i + 1) (by omega)
    · refine ⟨(M.1 57 i).toNat, it_nn (x := M.1 57 i) (by omega), (show (M.1 57 i).toNat < 24 by omega), ?_⟩
      refine br_ne (a := en_and ((kcb E sec (oth E p) : Nat) : Int) (M.1 55 ((M.1 57 i).toNat))) (b := 0) (by omega) (by omega) (fun q3 => ?_) (fun q3 => ?_)
      · refine aw_7_104 ?_
        refine aw_7_105 ?_
        refine ⟨(M.1 57 i).toNat, it_nn (x := M.1 57 i) (by omega), (show (M.1 57 i).toNat < 24 by omega), ?_⟩
        refine br_ne (a := en_and (en_shr ((kwb sec (oth E p) : Nat) : Int) (M.1 53 ((M.1 57 i).toNat))) 1) (b := 0) (by omega) (by omega) (fun q4 => ?_) (fun q4 => ?_)
        · refine aw_7_125 ?_
          refine aw_7_126 ?_
          refine br_eq_y (by decide) (by decide) (by decide) ?_
          refine aw_7_142 ?_
          refine br_eq_y (by decide) (by decide) (by decide) ?_
          refine aw_7_154 ?_
          refine aw_7_158 ?_
          refine aw_7_161 ?_
          refine en_AW_drop [true, true, true, true, true, true, true, false, false, false] ?_
          first
            | exfalso
              omega
            | refine en_AW_ls (congrArg (fun z_ : Int => ([some (.inr (.inr (1, 0, 52))), some (.inl ((l.length : Nat) : Int)), some (.inl sec), some (.inl ((kwb sec (oth E p) : Nat) : Int)), some (.inl ((kcb E sec (oth E p) : Nat) : Int)), some (.inl z_), some (.inl (((i : Nat) : Int) + 1)), none, none, none] : AL)) (show (sm (gv E p sec) (l.take i)) + (M.1 52 7) = sm (gv E p sec) (l.take (i + 1)) from by rw [tk_n _ _ (by omega), sm_app, show sm (gv E p sec) [l.getD i 0] = gv E p sec (l.getD i 0) + 0 from rfl, g7 (by omega) (by omega) (by omega), b7]; omega)) ?_
              exact ih (i + 1) (by omega)
        · refine aw_7_126 ?_
          refine br_eq_y (by decide) (by decide) (by decide) ?_
          refine aw_7_142 ?_
          refine br_eq_n (by decide) (by decide) (by decide) ?_
          refine aw_7_158 ?_
          refine aw_7_161 ?_
          refine en_AW_drop [true, true, true, true, true, true, true, false, false, false] ?_
          first
            | exfalso
              omega
            | refine en_AW_ls (congrArg (fun z_ : Int => ([some (.inr (.inr (1, 0, 52))), some (.inl ((l.length : Nat) : Int)), some (.inl sec), some (.inl ((kwb sec (oth E p) : Nat) : Int)), some (.inl ((kcb E sec (oth E p) : Nat) : Int)), some (.inl z_), some (.inl (((i : Nat) : Int) + 1)), none, none, none] : AL)) (show (sm (gv E p sec) (l.take i)) + (M.1 52 6) = sm (gv E p sec) (l.take (i + 1)) from by rw [tk_n _ _ (by omega), sm_app, show sm (gv E p sec) [l.getD i 0] = gv E p sec (l.getD i 0) + 0 from rfl, g6 (by omega) (by omega) (by omega), b6]; omega)) ?_
              exact ih (i + 1) (by omega)
      · refine aw_7_105 ?_
        refine ⟨(M.1 57 i).toNat, it_nn (x := M.1 57 i) (by omega), (show (M.1 57 i).toNat < 24 by omega), ?_⟩
        refine br_ne (a := en_and (en_shr ((kwb sec (oth E p) : Nat) : Int) (M.1 53 ((M.1 57 i).toNat))) 1) (b := 0) (by omega) (by omega) (fun q9 => ?_) (fun q9 => ?_)
        · refine aw_7_125 ?_
          refine aw_7_126 ?_
          refine br_eq_n (by decide) (by decide) (by decide) ?_
          refine aw_7_158 ?_
          refine aw_7_161 ?_
          refine en_AW_drop [true, true, true, true, true, true, true, false, false, false] ?_
          first
            | exfalso
              omega
            | refine en_AW_ls (congrArg (fun z_ : Int => ([some (.inr (.inr (1, 0, 52))), some (.inl ((l.length : Nat) : Int)), some (.inl sec), some (.inl ((kwb sec (oth E p) : Nat) : Int)), some (.inl ((kcb E sec (oth E p) : Nat) : Int)), some (.inl z_), some (.inl (((i : Nat) : Int) + 1)), none, none, none] : AL)) (show (sm (gv E p sec) (l.take i)) + (M.1 52 5) = sm (gv E p sec) (l.take (i + 1)) from by rw [tk_n _ _ (by omega), sm_app, show sm (gv E p sec) [l.getD i 0] = gv E p sec (l.getD i 0) + 0 from rfl, g5 (by omega) (by omega), b5]; omega)) ?_
              exact ih (i + 1) (by omega)
        · refine aw_7_126 ?_
          refine br_eq_n (by decide) (by decide) (by decide) ?_
          refine aw_7_158 ?_
          refine aw_7_161 ?_
          refine en_AW_drop [true, true, true, true, true, true, true, false, false, false] ?_
          first
            | exfalso
              omega
            | refine en_AW_ls (congrArg (fun z_ : Int => ([some (.inr (.inr (1, 0, 52))), some (.inl ((l.length : Nat) : Int)), some (.inl sec), some (.inl ((kwb sec (oth E p) : Nat) : Int)), some (.inl ((kcb E sec (oth E p) : Nat) : Int)), some (.inl z_), some (.inl (((i : Nat) : Int) + 1)), none, none, none] : AL)) (show (sm (gv E p sec) (l.take i)) + (M.1 52 5) = sm (gv E p sec) (l.take (i + 1)) from by rw [tk_n _ _ (by omega), sm_app, show sm (gv E p sec) [l.getD i 0] = gv E p sec (l.getD i 0) + 0 from rfl, g5 (by omega) (by omega), b5]; omega)) ?_
              exact ih (i + 1) (by omega)
theorem R_pa (E : Ev) (M : Mm) (p : Nat) (hB : isBS M E p) (hg : s_ok E) (l : List Nat) (hl5 : l.length ≤ 5) (hch : chO M E p l) (sec : Int) (hsec : -2147483648 ≤ sec ∧ sec < 2147483648) : en_Ct 1 0 7 [.inr (.inr (1, 0, 52)), .inl ((l.length : Nat) : Int), .inl sec] M (fun r M' => r = some (.inl (sm (gv E p sec) l)) ∧ M' = M) := by
  refine ct_7 rfl ?_
  refine aw_7_0 ?_
  refine L_pa1 E M p hB hg _ sec hsec ?_ (oth E p).length 0 (Nat.zero_add _)
  refine aw_7_56 ?_
  exact L_pa2 E M p hB hg l hl5 hch sec hsec ⟨rfl, rfl⟩ l.length 0 (Nat.zero_add _)
