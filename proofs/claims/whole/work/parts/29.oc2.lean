/-- who keeps a word, of the first n people: bits; how many keep one of a column -/
def s_kb (E : Ev) (w : Nat) : Nat → Nat
  | 0 => 0
  | n + 1 => s_kb E w n ||| (if (kpw E n).testBit w = true then 2 ^ n else 0)
def s_hm (E : Ev) (c : Nat) : Nat → Nat
  | 0 => 0
  | n + 1 => s_hm E c n + (if (kpc E n).testBit c = true then 1 else 0)
def s_worth (E : Ev) (w : Nat) : Int := if s_hm E (E.1 4 w).toNat (E.1 0 2).toNat ≤ 1 then E.1 1 3 else if s_pc (s_kb E w (E.1 0 2).toNat) ≤ 1 then E.1 1 4 else E.1 1 5
/-- points of a sheet's words, in a column or (-1) in all -/
def s_pin (E : Ev) (p : Nat) (c : Int) : List Nat → Int → Int
  | [], t => t
  | w :: r, t => s_pin E p c r (if (kpw E p).testBit w = true ∧ (c = -1 ∨ E.1 4 w = c) then t + s_worth E w else t)
def pts (E : Ev) (p : Nat) (c : Int) : Int := s_pin E p c (s_shl E p) 0
/-- the first with most points but one, of the first n: who, and the points -/
def s_ld (E : Ev) (o : Int) : Nat → Int × Int
  | 0 => (-1, -1)
  | n + 1 => if (s_ld E o n).2 < (if (n : Int) = o then -1 else pts E n (-1)) then ((n : Int), if (n : Int) = o then -1 else pts E n (-1)) else s_ld E o n
theorem s_kb_lt {E : Ev} {w : Nat} : ∀ n, s_kb E w n < 2 ^ n
  | 0 => by simp [s_kb]
  | n + 1 => by
    have := s_kb_lt (E := E) (w := w) n
    unfold s_kb
    refine Nat.or_lt_two_pow (by rw [Nat.pow_succ]; omega) ?_
    split
    · exact Nat.pow_lt_pow_right (by decide) (by omega)
    · exact Nat.two_pow_pos _
theorem s_hm_le {E : Ev} {c : Nat} : ∀ n, s_hm E c n ≤ n
  | 0 => by simp [s_hm]
  | n + 1 => by
    have := s_hm_le (E := E) (c := c) n
    unfold s_hm
    split <;> omega
theorem s_kb_b {E : Ev} {w : Nat} (hg : s_ok E) {n : Nat} (hn : n ≤ 4) : s_kb E w n < 16 := Nat.lt_of_lt_of_le (s_kb_lt n) (Nat.pow_le_pow_right (by decide) hn)
theorem nu_keepbit {a b w i : Nat} (ha : a < 2 ^ 31) (hw : w < 31) (hb : b < 16) (hi : i < 4) : en_or (b : Int) (en_shl (en_and (en_shr (a : Int) (w : Int)) 1) (i : Int)) = ((b ||| (if a.testBit w = true then 2 ^ i else 0) : Nat) : Int) := by
  rw [nu_bit ha hw]
  split
  · rw [nu_shl1 i (by omega)]
    exact nu_or (by omega) (Nat.lt_of_le_of_lt (Nat.pow_le_pow_right (by decide) (show i ≤ 4 by omega)) (by decide))
  · rw [(show ∀ i : Nat, i < 4 → en_shl 0 (i : Int) = 0 by decide +kernel) i hi]
    exact (nu_or0 (by omega)).trans (by rw [Nat.or_zero])
theorem s_worth_b {E : Ev} {w : Nat} (hg : s_ok E) : 0 ≤ s_worth E w ∧ s_worth E w ≤ 50 := by
  obtain ⟨n0, n1, n2, a0, a1, a2, a3, a4, a5, a6, a7⟩ := hg.1
  unfold s_worth
  split
  · exact a3
  · split
    · exact a4
    · exact a5
theorem s_pin_b {E : Ev} {p : Nat} {c : Int} (hg : s_ok E) : ∀ (l : List Nat) (t : Int), t ≤ s_pin E p c l t ∧ s_pin E p c l t ≤ t + 50 * (l.length : Int)
  | [], t => by simp [s_pin]
  | w :: r, t => by
    have h := s_worth_b (w := w) hg
    unfold s_pin
    simp only [List.length_cons]
    split
    · have := s_pin_b (p := p) (c := c) hg r (t + s_worth E w)
      omega
    · have := s_pin_b (p := p) (c := c) hg r t
      omega
theorem pts_b {E : Ev} {p : Nat} {c : Int} (hg : s_ok E) (hp : p < 4) : 0 ≤ pts E p c ∧ pts E p c ≤ 250 := by
  have := s_pin_b (p := p) (c := c) hg (s_shl E p) 0
  have hl : (s_shl E p).length ≤ 5 := by
    unfold s_shl
    rw [shl_len]
    have := (hg.2.2.1 p hp).1
    omega
  unfold pts
  omega
theorem s_ld_b {E : Ev} {o : Int} (hg : s_ok E) : ∀ n, n ≤ 4 → (-1 ≤ (s_ld E o n).1 ∧ (s_ld E o n).1 < (n : Int)) ∧ (-1 ≤ (s_ld E o n).2 ∧ (s_ld E o n).2 ≤ 250)
  | 0, _ => by simp [s_ld]
  | n + 1, h => by
    have ih := s_ld_b (o := o) hg n (by omega)
    have hp := pts_b (c := -1) hg (show n < 4 by omega)
    rw [s_ld]
    generalize hx : (if (n : Int) = o then (-1 : Int) else pts E n (-1)) = x
    have hb : -1 ≤ x ∧ x ≤ 250 := by rw [← hx]; split <;> omega
    split
    · dsimp only
      omega
    · omega
theorem L_kb {post : Option AV → Mm → Prop} (e : Nat) (E : Ev) (M : Mm) (hJ : isE M e E) (hO : isO M E) (hg : s_ok E) (w : Nat) (hw : w < 24) (hq : post (some (.inl ((s_kb E w (E.1 0 2).toNat : Nat) : Int))) M) : ∀ (n : Nat) (i : Nat), (((i : Nat) : Int) + ((n : Nat) : Int) = E.1 0 2) → en_AW 1 0 39 post 5 [some (.inr (.inr (1, 2, 49))), some (.inr (.inr (1, 1, e))), some (.inl ((w : Nat) : Int)), some (.inl ((s_kb E w i : Nat) : Int)), some (.inl ((i : Nat) : Int))] [] M 0 := by
  intro n
  induction n with
  | zero =>
    intro i hi
    obtain ⟨n0, n1, n2, a0, a1, a2, a3, a4, a5, a6, a7⟩ := nm_I hJ hg.1
    have r0 := r0_I hJ 0
    have r1 := r0_I hJ 1
    have r2 := r0_I hJ 2
    refine aw_39_5 ?_
    refine br_ge_y (a := ((i : Nat) : Int)) (b := M.1 e 2) (by omega) (by omega) (by omega) ?_
    refine aw_39_37 ?_
    rw [show (E.1 0 2).toNat = i by omega] at hq
    exact hq
  | succ n ih =>
    intro i hi
    obtain ⟨n0, n1, n2, a0, a1, a2, a3, a4, a5, a6, a7⟩ := nm_I hJ hg.1
    have r0 := r0_I hJ 0
    have r1 := r0_I hJ 1
    have r2 := r0_I hJ 2
    have hb := s_kb_b (w := w) hg (n := i) (by omega)
    refine aw_39_5 ?_
    refine br_ge_n (a := ((i : Nat) : Int)) (b := M.1 e 2) (by omega) (by omega) (by omega) ?_
    refine ⟨i, rfl, (show i < 4 by omega), ?_⟩
    refine en_AW_ls (congrArg (fun z_ : Int => ([some (.inr (.inr (1, 2, 49))), some (.inr (.inr (1, 1, e))), some (.inl ((w : Nat) : Int)), some (.inl z_), some (.inl (((i : Nat) : Int) + 1))] : AL)) (show en_or ((s_kb E w i : Nat) : Int) (en_shl (en_and (en_shr (M.1 50 i) ((w : Nat) : Int)) 1) ((i : Nat) : Int)) = ((s_kb E w (i + 1) : Nat) : Int) from by rw [(hO.2.2 i (by omega)).1]; exact nu_keepbit (Nat.lt_trans (kpw_lt hg i) (by decide)) (by omega) hb (by omega))) ?_
    exact ih (i + 1) (by omega)
theorem R_kb (e : Nat) (E : Ev) (M : Mm) (hJ : isE M e E) (hO : isO M E) (hg : s_ok E) (w : Nat) (hw : w < 24) : en_Ct 1 0 39 [.inr (.inr (1, 2, 49)), .inr (.inr (1, 1, e)), .inl ((w : Nat) : Int)] M (fun r M' => r = some (.inl (((s_kb E w (E.1 0 2).toNat : Nat) : Int))) ∧ M' = M) := by
  obtain ⟨n0, n1, n2, a0, a1, a2, a3, a4, a5, a6, a7⟩ := nm_I hJ hg.1
  have r0 := r0_I hJ 0
  have r1 := r0_I hJ 1
  have r2 := r0_I hJ 2
  refine ct_39 rfl ?_
  refine aw_39_0 ?_
  exact L_kb e E M hJ hO hg w hw ⟨rfl, rfl⟩ (E.1 0 2).toNat 0 (by omega)
theorem L_hm {post : Option AV → Mm → Prop} (e : Nat) (E : Ev) (M : Mm) (hJ : isE M e E) (hO : isO M E) (hg : s_ok E) (c : Nat) (hc : c < 5) (hq : post (some (.inl ((s_hm E c (E.1 0 2).toNat : Nat) : Int))) M) : ∀ (n : Nat) (i : Nat), (((i : Nat) : Int) + ((n : Nat) : Int) = E.1 0 2) → en_AW 1 0 40 post 5 [some (.inr (.inr (1, 2, 49))), some (.inr (.inr (1, 1, e))), some (.inl ((c : Nat) : Int)), some (.inl ((s_hm E c i : Nat) : Int)), some (.inl ((i : Nat) : Int))] [] M 0 := by
  intro n
  induction n with
  | zero =>
    intro i hi
    obtain ⟨n0, n1, n2, a0, a1, a2, a3, a4, a5, a6, a7⟩ := nm_I hJ hg.1
    have r0 := r0_I hJ 0
    have r1 := r0_I hJ 1
    have r2 := r0_I hJ 2
    refine aw_40_5 ?_
    refine br_ge_y (a := ((i : Nat) : Int)) (b := M.1 e 2) (by omega) (by omega) (by omega) ?_
    refine aw_40_34 ?_
    rw [show (E.1 0 2).toNat = i by omega] at hq
    exact hq
  | succ n ih =>
    intro i hi
    obtain ⟨n0, n1, n2, a0, a1, a2, a3, a4, a5, a6, a7⟩ := nm_I hJ hg.1
    have r0 := r0_I hJ 0
    have r1 := r0_I hJ 1
    have r2 := r0_I hJ 2
    have hb := s_hm_le (E := E) (c := c) i
    refine aw_40_5 ?_
    refine br_ge_n (a := ((i : Nat) : Int)) (b := M.1 e 2) (by omega) (by omega) (by omega) ?_
    refine ⟨i, rfl, (show i < 4 by omega), ?_⟩
    refine en_AW_ls (congrArg (fun z_ : Int => ([some (.inr (.inr (1, 2, 49))), some (.inr (.inr (1, 1, e))), some (.inl ((c : Nat) : Int)), some (.inl z_), some (.inl (((i : Nat) : Int) + 1))] : AL)) (show ((s_hm E c i : Nat) : Int) + (en_and (en_shr (M.1 51 i) ((c : Nat) : Int)) 1) = ((s_hm E c (i + 1) : Nat) : Int) from by rw [(hO.2.2 i (by omega)).2, nu_bit (Nat.lt_trans (kpc_lt hg i) (by decide)) (by omega), s_hm]; split <;> simp)) ?_
    exact ih (i + 1) (by omega)
theorem R_hm (e : Nat) (E : Ev) (M : Mm) (hJ : isE M e E) (hO : isO M E) (hg : s_ok E) (c : Nat) (hc : c < 5) : en_Ct 1 0 40 [.inr (.inr (1, 2, 49)), .inr (.inr (1, 1, e)), .inl ((c : Nat) : Int)] M (fun r M' => r = some (.inl (((s_hm E c (E.1 0 2).toNat : Nat) : Int))) ∧ M' = M) := by
  obtain ⟨n0, n1, n2, a0, a1, a2, a3, a4, a5, a6, a7⟩ := nm_I hJ hg.1
  have r0 := r0_I hJ 0
  have r1 := r0_I hJ 1
  have r2 := r0_I hJ 2
  refine ct_40 rfl ?_
  refine aw_40_0 ?_
  exact L_hm e E M hJ hO hg c hc ⟨rfl, rfl⟩ (E.1 0 2).toNat 0 (by omega)
theorem R_hm' (e : Nat) (E : Ev) (M : Mm) (hJ : isE M e E) (hO : isO M E) (hg : s_ok E) (x : Int) (h0 : 0 ≤ x) (h1 : x < 5) : en_Ct 1 0 40 [.inr (.inr (1, 2, 49)), .inr (.inr (1, 1, e)), .inl x] M (fun r M' => r = some (.inl ((s_hm E x.toNat (E.1 0 2).toNat : Nat) : Int)) ∧ M' = M) := by
  have h := R_hm e E M hJ hO hg x.toNat (by omega)
  rw [show ((x.toNat : Nat) : Int) = x by omega] at h
  exact h
theorem R_worth (e : Nat) (E : Ev) (M : Mm) (hJ : isE M e E) (hO : isO M E) (hg : s_ok E) (w : Nat) (hw : (w : Int) < E.1 0 1) : en_Ct 2 0 41 [.inr (.inr (1, 2, 49)), .inr (.inr (1, 1, e)), .inl ((w : Nat) : Int)] M (fun r M' => r = some (.inl (s_worth E w)) ∧ M' = M) := by
  obtain ⟨n0, n1, n2, a0, a1, a2, a3, a4, a5, a6, a7⟩ := nm_I hJ hg.1
  have r0 := r0_I hJ 0
  have r1 := r0_I hJ 1
  have r2 := r0_I hJ 2
  have hcol : M.1 (e + 4) w = E.1 4 w := congrFun (hJ.1 4 (by decide)) w
  obtain ⟨k1, k2, k3, k4, k5, k6, k7⟩ := hg.2.1 w hw
  refine ct_41 rfl ?_
  refine aw_41_0 ?_
  refine ⟨w, rfl, (show w < 24 by omega), ?_⟩
  refine ⟨1, 0, by first | decide | omega, by first | decide | omega, en_Ct_eq (R_hm' e E _ hJ hO hg (M.1 (e + 4) w) (by omega) (by omega)) ?_⟩
  have hb1 := s_hm_le (E := E) (c := (M.1 (e + 4) w).toNat) (E.1 0 2).toNat
  refine br_gt (a := ((s_hm E (M.1 (e + 4) w).toNat (E.1 0 2).toNat : Nat) : Int)) (b := 1) (by omega) (by omega) (fun q2 => ?_) (fun q2 => ?_)
  · refine aw_41_22 ?_
    refine ⟨1, 0, by first | decide | omega, by first | decide | omega, en_Ct_eq (R_kb e E _ hJ hO hg w (by omega)) ?_⟩
    have kb3 := s_kb_b (E := E) (w := w) hg (n := (E.1 0 2).toNat) (by omega)
    refine ⟨1, 0, by first | decide | omega, by first | decide | omega, en_Ct_eq (R_bitCount' ((s_kb E w (E.1 0 2).toNat : Nat) : Int) (by omega) (by omega) _) ?_⟩
    have pb4 := s_pc_b (n := (s_kb E w (E.1 0 2).toNat))
    refine br_gt (a := ((s_pc (s_kb E w (E.1 0 2).toNat) : Nat) : Int)) (b := 1) (by omega) (by omega) (fun q5 => ?_) (fun q5 => ?_)
    · refine aw_41_44 ?_
      refine ⟨5, rfl, (show 5 < 8 by omega), ?_⟩
      refine aw_41_50 ?_
      refine ⟨congrArg (fun z => some (Sum.inl z)) (show M.1 (e + 1) 5 = s_worth E w from ?_), rfl⟩
      rw [show M.1 (e + 1) = E.1 1 from hJ.1 1 (by decide)]
      unfold s_worth
      rw [if_neg (by rw [← hcol]; omega)]
      exact (if_neg (by omega)).symm
    · refine ⟨4, rfl, (show 4 < 8 by omega), ?_⟩
      refine aw_41_50 ?_
      refine ⟨congrArg (fun z => some (Sum.inl z)) (show M.1 (e + 1) 4 = s_worth E w from ?_), rfl⟩
      rw [show M.1 (e + 1) = E.1 1 from hJ.1 1 (by decide)]
      unfold s_worth
      rw [if_neg (by rw [← hcol]; omega)]
      exact (if_pos (by omega)).symm
  · refine ⟨3, rfl, (show 3 < 8 by omega), ?_⟩
    refine ⟨congrArg (fun z => some (Sum.inl z)) (show M.1 (e + 1) 3 = s_worth E w from ?_), rfl⟩
    rw [show M.1 (e + 1) = E.1 1 from hJ.1 1 (by decide)]
    unfold s_worth
    exact (if_pos (by rw [← hcol]; omega)).symm
theorem R_worth' (e : Nat) (E : Ev) (M : Mm) (hJ : isE M e E) (hO : isO M E) (hg : s_ok E) (x : Int) (h0 : 0 ≤ x) (h1 : x < E.1 0 1) : en_Ct 2 0 41 [.inr (.inr (1, 2, 49)), .inr (.inr (1, 1, e)), .inl x] M (fun r M' => r = some (.inl (s_worth E x.toNat)) ∧ M' = M) := by
  have h := R_worth e E M hJ hO hg x.toNat (by omega)
  rw [show ((x.toNat : Nat) : Int) = x by omega] at h
  exact h
theorem L_pin {post : Option AV → Mm → Prop} (e : Nat) (E : Ev) (M : Mm) (hJ : isE M e E) (hO : isO M E) (hg : s_ok E) (p : Nat) (hp : (p : Int) < E.1 0 2) (c : Int) (hc : -2147483648 ≤ c ∧ c < 2147483648) : ∀ (n : Nat) (i : Nat) (t : Int), (((i : Nat) : Int) + ((n : Nat) : Int) = E.1 14 p) → (0 ≤ t) → (t ≤ 50 * ((i : Nat) : Int)) → (post (some (.inl (s_pin E p c (shl (M.1 (e + 9 + 1 + 1 * p)) i n) t))) M) → en_AW 3 0 42 post 6 [some (.inr (.inr (1, 2, 49))), some (.inr (.inr (1, 1, e))), some (.inl ((p : Nat) : Int)), some (.inl c), some (.inl t), some (.inl ((i : Nat) : Int)), none] [] M 0 := by
  intro n
  induction n with
  | zero =>
    intro i t hi ht0 ht1 hq
    obtain ⟨n0, n1, n2, a0, a1, a2, a3, a4, a5, a6, a7⟩ := nm_I hJ hg.1
    have r0 := r0_I hJ 0
    have r1 := r0_I hJ 1
    have r2 := r0_I hJ 2
    have h14 : M.1 (e + 14) p = E.1 14 p := congrFun (hJ.1 14 (by decide)) p
    obtain ⟨s1, s2⟩ := hg.2.2.1 p (by omega)
    refine aw_42_6 ?_
    refine ⟨p, rfl, (show p < 4 by omega), ?_⟩
    refine br_ge_y (a := ((i : Nat) : Int)) (b := M.1 (e + 14) p) (by omega) (by omega) (by omega) ?_
    refine aw_42_77 ?_
    exact hq
  | succ n ih =>
    intro i t hi ht0 ht1 hq
    obtain ⟨n0, n1, n2, a0, a1, a2, a3, a4, a5, a6, a7⟩ := nm_I hJ hg.1
    have r0 := r0_I hJ 0
    have r1 := r0_I hJ 1
    have r2 := r0_I hJ 2
    have h14 : M.1 (e + 14) p = E.1 14 p := congrFun (hJ.1 14 (by decide)) p
    obtain ⟨s1, s2⟩ := hg.2.2.1 p (by omega)
    obtain ⟨x0, x1⟩ := s2 i (by omega)
    have hrow : M.1 (e + 9 + 1 + 1 * p) = E.2 p := hJ.2 p (by omega)
    rw [← hrow] at x0 x1
    have hk := (hO.2.2 p hp).1
    have hbt := nu_bitI (a := kpw E p) (x := M.1 (e + 9 + 1 + 1 * p) i) (Nat.lt_trans (kpw_lt hg p) (by decide)) x0 (by omega)
    rw [← hk] at hbt
    have hcol : M.1 (e + 4) (M.1 (e + 9 + 1 + 1 * p) i).toNat = E.1 4 (M.1 (e + 9 + 1 + 1 * p) i).toNat := congrFun (hJ.1 4 (by decide)) _
    obtain ⟨k1, k2, k3, k4, k5, k6, k7⟩ := hg.2.1 (M.1 (e + 9 + 1 + 1 * p) i).toNat (by omega)
    have hb1 := nu_and1 (en_shr (M.1 50 p) (M.1 (e + 9 + 1 + 1 * p) i))
    refine aw_42_6 ?_
    refine ⟨p, rfl, (show p < 4 by omega), ?_⟩
    refine br_ge_n (a := ((i : Nat) : Int)) (b := M.1 (e + 14) p) (by omega) (by omega) (by omega) ?_
    refine ⟨p, rfl, (show p < 4 by omega), ?_⟩
    refine ⟨i, rfl, (show i < 5 by omega), ?_⟩
    refine ⟨p, rfl, (show p < 4 by omega), ?_⟩
    refine br_ne (a := en_and (en_shr (M.1 50 p) (M.1 (e + 9 + 1 + 1 * p) i)) 1) (b := 1) (by omega) (by omega) (fun q2 => ?_) (fun q2 => ?_)
    · refine aw_42_71 ?_
      refine en_AW_drop [true, true, true, true, true, true, false] ?_
      have hcd : ¬ ((kpw E p).testBit (M.1 (e + 9 + 1 + 1 * p) i).toNat = true ∧ (c = -1 ∨ E.1 4 (M.1 (e + 9 + 1 + 1 * p) i).toNat = c)) := by
        by_cases z1 : (kpw E p).testBit (M.1 (e + 9 + 1 + 1 * p) i).toNat = true
        · rw [if_pos z1] at hbt
          rintro ⟨-, z2⟩
          omega
        · rw [if_neg z1] at hbt
          exact fun z => z1 z.1
      exact ih (i + 1) t (by omega) (by omega) (by omega) (by simp only [shl, s_pin] at hq; rw [if_neg hcd] at hq; exact hq)
    · refine br_eq (a := c) (b := (-1)) (by omega) (by omega) (fun q3 => ?_) (fun q3 => ?_)
      · refine aw_42_59 ?_
        refine ⟨2, 0, by first | decide | omega, by first | decide | omega, en_Ct_eq (R_worth' e E _ hJ hO hg (M.1 (e + 9 + 1 + 1 * p) i) (by omega) (by omega)) ?_⟩
        have wb4 := s_worth_b (E := E) (w := (M.1 (e + 9 + 1 + 1 * p) i).toNat) hg
        refine aw_42_71 ?_
        refine en_AW_drop [true, true, true, true, true, true, false] ?_
        have hcd : ((kpw E p).testBit (M.1 (e + 9 + 1 + 1 * p) i).toNat = true ∧ (c = -1 ∨ E.1 4 (M.1 (e + 9 + 1 + 1 * p) i).toNat = c)) := by
          by_cases z1 : (kpw E p).testBit (M.1 (e + 9 + 1 + 1 * p) i).toNat = true
          · rw [if_pos z1] at hbt
            exact ⟨z1, by omega⟩
          · rw [if_neg z1] at hbt
            omega
        exact ih (i + 1) (t + (s_worth E (M.1 (e + 9 + 1 + 1 * p) i).toNat)) (by omega) (by omega) (by omega) (by simp only [shl, s_pin] at hq; rw [if_pos hcd] at hq; exact hq)
      · refine ⟨(M.1 (e + 9 + 1 + 1 * p) i).toNat, it_nn (x := M.1 (e + 9 + 1 + 1 * p) i) (by omega), (show (M.1 (e + 9 + 1 + 1 * p) i).toNat < 24 by omega), ?_⟩
        refine br_ne (a := M.1 (e + 4) ((M.1 (e + 9 + 1 + 1 * p) i).toNat)) (b := c) (by omega) (by omega) (fun q5 => ?_) (fun q5 => ?_)
        · refine aw_42_71 ?_
          refine en_AW_drop [true, true, true, true, true, true, false] ?_
          have hcd : ¬ ((kpw E p).testBit (M.1 (e + 9 + 1 + 1 * p) i).toNat = true ∧ (c = -1 ∨ E.1 4 (M.1 (e + 9 + 1 + 1 * p) i).toNat = c)) := by
            by_cases z1 : (kpw E p).testBit (M.1 (e + 9 + 1 + 1 * p) i).toNat = true
            · rw [if_pos z1] at hbt
              rintro ⟨-, z2⟩
              omega
            · rw [if_neg z1] at hbt
              exact fun z => z1 z.1
          exact ih (i + 1) t (by omega) (by omega) (by omega) (by simp only [shl, s_pin] at hq; rw [if_neg hcd] at hq; exact hq)
        · refine aw_42_59 ?_
          refine ⟨2, 0, by first | decide | omega, by first | decide | omega, en_Ct_eq (R_worth' e E _ hJ hO hg (M.1 (e + 9 + 1 + 1 * p) i) (by omega) (by omega)) ?_⟩
          have wb6 := s_worth_b (E := E) (w := (M.1 (e + 9 + 1 + 1 * p) i).toNat) hg
          refine aw_42_71 ?_
          refine en_AW_drop [true, true, true, true, true, true, false] ?_
          have hcd : ((kpw E p).testBit (M.1 (e + 9 + 1 + 1 * p) i).toNat = true ∧ (c = -1 ∨ E.1 4 (M.1 (e + 9 + 1 + 1 * p) i).toNat = c)) := by
            by_cases z1 : (kpw E p).testBit (M.1 (e + 9 + 1 + 1 * p) i).toNat = true
            · rw [if_pos z1] at hbt
              exact ⟨z1, by omega⟩
            · rw [if_neg z1] at hbt
              omega
          exact ih (i + 1) (t + (s_worth E (M.1 (e + 9 + 1 + 1 * p) i).toNat)) (by omega) (by omega) (by omega) (by simp only [shl, s_pin] at hq; rw [if_pos hcd] at hq; exact hq)
theorem R_pin (e : Nat) (E : Ev) (M : Mm) (hJ : isE M e E) (hO : isO M E) (hg : s_ok E) (p : Nat) (hp : (p : Int) < E.1 0 2) (c : Int) (hc : -2147483648 ≤ c ∧ c < 2147483648) : en_Ct 3 0 42 [.inr (.inr (1, 2, 49)), .inr (.inr (1, 1, e)), .inl ((p : Nat) : Int), .inl c] M (fun r M' => r = some (.inl (pts E p c)) ∧ M' = M) := by
  obtain ⟨n0, n1, n2, a0, a1, a2, a3, a4, a5, a6, a7⟩ := nm_I hJ hg.1
  have r0 := r0_I hJ 0
  have r1 := r0_I hJ 1
  have r2 := r0_I hJ 2
  obtain ⟨s1, s2⟩ := hg.2.2.1 p (by omega)
  refine ct_42 rfl ?_
  refine aw_42_0 ?_
  refine L_pin e E M hJ hO hg p hp c hc (E.1 14 p).toNat 0 0 (by omega) (by omega) (by omega) ⟨?_, rfl⟩
  rw [show M.1 (e + 9 + 1 + 1 * p) = E.2 p from hJ.2 p (by omega)]
  rfl
theorem ld_t {E : Ev} {o x : Int} {n : Nat} (hx : x = (if (n : Int) = o then -1 else pts E n (-1))) (h : (s_ld E o n).2 < x) : ((n : Int), x) = s_ld E o (n + 1) := by
  rw [s_ld, ← hx, if_pos h]
theorem ld_f {E : Ev} {o x : Int} {n : Nat} (hx : x = (if (n : Int) = o then -1 else pts E n (-1))) (h : ¬ (s_ld E o n).2 < x) : s_ld E o n = s_ld E o (n + 1) := by
  rw [s_ld, ← hx, if_neg h]
theorem L_ld {post : Option AV → Mm → Prop} (e : Nat) (E : Ev) (M : Mm) (hJ : isE M e E) (hO : isO M E) (hg : s_ok E) (o : Int) (ho : -2147483648 ≤ o ∧ o < 2147483648) (hq : post (some (.inl (s_ld E o (E.1 0 2).toNat).1)) M) : ∀ (n : Nat) (i : Nat), (((i : Nat) : Int) + ((n : Nat) : Int) = E.1 0 2) → en_AW 4 0 43 post 8 [some (.inr (.inr (1, 2, 49))), some (.inr (.inr (1, 1, e))), some (.inl o), some (.inl ((s_ld E o i).1)), some (.inl ((s_ld E o i).2)), some (.inl ((i : Nat) : Int)), none] [] M 0 := by
  intro n
  induction n with
  | zero =>
    intro i hi
    obtain ⟨n0, n1, n2, a0, a1, a2, a3, a4, a5, a6, a7⟩ := nm_I hJ hg.1
    have r0 := r0_I hJ 0
    have r1 := r0_I hJ 1
    have r2 := r0_I hJ 2
    refine aw_43_8 ?_
    refine br_ge_y (a := ((i : Nat) : Int)) (b := M.1 e 2) (by omega) (by omega) (by omega) ?_
    refine aw_43_57 ?_
    rw [show (E.1 0 2).toNat = i by omega] at hq
    exact hq
  | succ n ih =>
    intro i hi
    obtain ⟨n0, n1, n2, a0, a1, a2, a3, a4, a5, a6, a7⟩ := nm_I hJ hg.1
    have r0 := r0_I hJ 0
    have r1 := r0_I hJ 1
    have r2 := r0_I hJ 2
    have hb := s_ld_b (o := o) hg i (by omega)
    refine aw_43_8 ?_
    refine br_ge_n (a := ((i : Nat) : Int)) (b := M.1 e 2) (by omega) (by omega) (by omega) ?_
    refine br_ne (a := ((i : Nat) : Int)) (b := o) (by omega) (by omega) (fun q2 => ?_) (fun q2 => ?_)
    · refine aw_43_27 ?_
      refine ⟨3, 0, by first | decide | omega, by first | decide | omega, en_Ct_eq (R_pin e E _ hJ hO hg i (by omega) (-1) (by omega)) ?_⟩
      have pb3 := pts_b (E := E) (p := i) (c := (-1)) hg (by omega)
      refine aw_43_35 ?_
      refine br_le (a := pts E i (-1)) (b := (s_ld E o i).2) (by omega) (by omega) (fun q4 => ?_) (fun q4 => ?_)
      · refine aw_43_51 ?_
        refine en_AW_drop [true, true, true, true, true, true, false] ?_
        have hl := ld_f (E := E) (o := o) (n := i) (x := pts E i (-1)) ((if_neg (by omega)).symm) (by omega)
        refine en_AW_ls (congrArg (fun z_ : Int => ([some (.inr (.inr (1, 2, 49))), some (.inr (.inr (1, 1, e))), some (.inl o), some (.inl z_), some (.inl ((s_ld E o i).2)), some (.inl (((i : Nat) : Int) + 1)), none] : AL)) (show (s_ld E o i).1 = (s_ld E o (i + 1)).1 from congrArg Prod.fst hl)) ?_
        refine en_AW_ls (congrArg (fun z_ : Int => ([some (.inr (.inr (1, 2, 49))), some (.inr (.inr (1, 1, e))), some (.inl o), some (.inl ((s_ld E o (i + 1)).1)), some (.inl z_), some (.inl (((i : Nat) : Int) + 1)), none] : AL)) (show (s_ld E o i).2 = (s_ld E o (i + 1)).2 from congrArg Prod.snd hl)) ?_
        exact ih (i + 1) (by omega)
      · refine aw_43_51 ?_
        refine en_AW_drop [true, true, true, true, true, true, false] ?_
        have hl := ld_t (E := E) (o := o) (n := i) (x := pts E i (-1)) ((if_neg (by omega)).symm) (by omega)
        refine en_AW_ls (congrArg (fun z_ : Int => ([some (.inr (.inr (1, 2, 49))), some (.inr (.inr (1, 1, e))), some (.inl o), some (.inl z_), some (.inl (pts E i (-1))), some (.inl (((i : Nat) : Int) + 1)), none] : AL)) (show ((i : Nat) : Int) = (s_ld E o (i + 1)).1 from congrArg Prod.fst hl)) ?_
        refine en_AW_ls (congrArg (fun z_ : Int => ([some (.inr (.inr (1, 2, 49))), some (.inr (.inr (1, 1, e))), some (.inl o), some (.inl ((s_ld E o (i + 1)).1)), some (.inl z_), some (.inl (((i : Nat) : Int) + 1)), none] : AL)) (show pts E i (-1) = (s_ld E o (i + 1)).2 from congrArg Prod.snd hl)) ?_
        exact ih (i + 1) (by omega)
    · refine aw_43_35 ?_
      refine br_le (a := (-1)) (b := (s_ld E o i).2) (by omega) (by omega) (fun q5 => ?_) (fun q5 => ?_)
      · refine aw_43_51 ?_
        refine en_AW_drop [true, true, true, true, true, true, false] ?_
        have hl := ld_f (E := E) (o := o) (n := i) (x := (-1)) ((if_pos (by omega)).symm) (by omega)
        refine en_AW_ls (congrArg (fun z_ : Int => ([some (.inr (.inr (1, 2, 49))), some (.inr (.inr (1, 1, e))), some (.inl o), some (.inl z_), some (.inl ((s_ld E o i).2)), some (.inl (((i : Nat) : Int) + 1)), none] : AL)) (show (s_ld E o i).1 = (s_ld E o (i + 1)).1 from congrArg Prod.fst hl)) ?_
        refine en_AW_ls (congrArg (fun z_ : Int => ([some (.inr (.inr (1, 2, 49))), some (.inr (.inr (1, 1, e))), some (.inl o), some (.inl ((s_ld E o (i + 1)).1)), some (.inl z_), some (.inl (((i : Nat) : Int) + 1)), none] : AL)) (show (s_ld E o i).2 = (s_ld E o (i + 1)).2 from congrArg Prod.snd hl)) ?_
        exact ih (i + 1) (by omega)
      · refine aw_43_51 ?_
        refine en_AW_drop [true, true, true, true, true, true, false] ?_
        have hl := ld_t (E := E) (o := o) (n := i) (x := (-1)) ((if_pos (by omega)).symm) (by omega)
        refine en_AW_ls (congrArg (fun z_ : Int => ([some (.inr (.inr (1, 2, 49))), some (.inr (.inr (1, 1, e))), some (.inl o), some (.inl z_), some (.inl (-1)), some (.inl (((i : Nat) : Int) + 1)), none] : AL)) (show ((i : Nat) : Int) = (s_ld E o (i + 1)).1 from congrArg Prod.fst hl)) ?_
        refine en_AW_ls (congrArg (fun z_ : Int => ([some (.inr (.inr (1, 2, 49))), some (.inr (.inr (1, 1, e))), some (.inl o), some (.inl ((s_ld E o (i + 1)).1)), some (.inl z_), some (.inl (((i : Nat) : Int) + 1)), none] : AL)) (show (-1) = (s_ld E o (i + 1)).2 from congrArg Prod.snd hl)) ?_
        exact ih (i + 1) (by omega)
theorem R_ld (e : Nat) (E : Ev) (M : Mm) (hJ : isE M e E) (hO : isO M E) (hg : s_ok E) (o : Int) (ho : -2147483648 ≤ o ∧ o < 2147483648) : en_Ct 4 0 43 [.inr (.inr (1, 2, 49)), .inr (.inr (1, 1, e)), .inl o] M (fun r M' => r = some (.inl ((s_ld E o (E.1 0 2).toNat).1)) ∧ M' = M) := by
  obtain ⟨n0, n1, n2, a0, a1, a2, a3, a4, a5, a6, a7⟩ := nm_I hJ hg.1
  have r0 := r0_I hJ 0
  have r1 := r0_I hJ 1
  have r2 := r0_I hJ 2
  refine ct_43 rfl ?_
  refine aw_43_0 ?_
  exact L_ld e E M hJ hO hg o ho ⟨rfl, rfl⟩ (E.1 0 2).toNat 0 (by omega)
