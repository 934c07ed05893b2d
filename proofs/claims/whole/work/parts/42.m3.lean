theorem L_findKept {post : Option AV → Mm → Prop} (b : Nat) (E : Ev) (M : Mm) (hI : isM M b E) (hg : s_ok E) (hx : ∀ K : Mm, fr (b + 34) (b + 35) M K → isK K b E → post none K) : ∀ (n : Nat) (i : Nat) (K : Mm), (((i : Nat) : Int) + ((n : Nat) : Int) = E.1 0 2) → (fr (b + 34) (b + 35) M K) → (∀ q : Nat, q < i → K.1 (b + 34) q = ((kpw E q : Nat) : Int)) → en_AW 5 0 199 post 2 [some (.inr (.inr (1, 6, b))), some (.inl ((i : Nat) : Int))] [] K 0 := by
  intro n
  induction n with
  | zero =>
    intro i K hi hf h2
    have hJ := isM_k hI hf
    obtain ⟨n0, n1, n2, a0, a1, a2, a3, a4, a5, a6, a7⟩ := nm_J hJ hg
    have r0 : K.1 b 9 = E.1 0 0 := hJ.1.1
    have r1 : K.1 b 10 = E.1 0 1 := hJ.1.2.1
    have r2 : K.1 b 18 = E.1 0 2 := hJ.1.2.2.1
    have r3 : K.1 (b + 31) = E.1 1 := hJ.2.1.1
    refine aw_199_2 ?_
    refine br_ge_y (a := ((i : Nat) : Int)) (b := K.1 b 18) (by omega) (by omega) (by omega) ?_
    refine aw_199_27 ?_
    exact hx K hf (fun q hq => h2 q (by omega))
  | succ n ih =>
    intro i K hi hf h2
    have hJ := isM_k hI hf
    obtain ⟨n0, n1, n2, a0, a1, a2, a3, a4, a5, a6, a7⟩ := nm_J hJ hg
    have r0 : K.1 b 9 = E.1 0 0 := hJ.1.1
    have r1 : K.1 b 10 = E.1 0 1 := hJ.1.2.1
    have r2 : K.1 b 18 = E.1 0 2 := hJ.1.2.2.1
    have r3 : K.1 (b + 31) = E.1 1 := hJ.2.1.1
    refine aw_199_2 ?_
    refine br_ge_n (a := ((i : Nat) : Int)) (b := K.1 b 18) (by omega) (by omega) (by omega) ?_
    refine ⟨4, 0, by first | decide | omega, by first | decide | omega, en_Ct_eq (R_keptOf b E K hJ hg i (by omega)) ?_⟩
    refine ⟨i, rfl, (show i < 4 by omega), ?_⟩
    refine ih (i + 1) _ (by omega) (fr_w hf (by omega) (by omega)) (fun q hq => ?_)
    by_cases hqi : q = i
    · subst hqi
      simp [en_wI]
    · have := h2 q (by omega)
      simpa [en_wI, hqi] using this
theorem R_findKept (b : Nat) (E : Ev) (M : Mm) (hJ : isM M b E) (hg : s_ok E) : en_Ct 5 0 199 [.inr (.inr (1, 6, b))] M (fun r M' => r = none ∧ fr (b + 34) (b + 35) M M' ∧ isK M' b E) := by
  obtain ⟨n0, n1, n2, a0, a1, a2, a3, a4, a5, a6, a7⟩ := nm_J hJ hg
  have r0 : M.1 b 9 = E.1 0 0 := hJ.1.1
  have r1 : M.1 b 10 = E.1 0 1 := hJ.1.2.1
  have r2 : M.1 b 18 = E.1 0 2 := hJ.1.2.2.1
  have r3 : M.1 (b + 31) = E.1 1 := hJ.2.1.1
  refine ct_199 rfl ?_
  refine aw_199_0 ?_
  exact L_findKept b E M hJ hg (fun K hf hk => ⟨rfl, hf, hk⟩) (E.1 0 2).toNat 0 M (by omega) fr_rfl (fun q hq => absurd hq (Nat.not_lt_zero q))
theorem L_columnOf {post : Option AV → Mm → Prop} (b : Nat) (E : Ev) (M : Mm) (hJ : isM M b E) (hg : s_ok E) (set : Nat) (hset : set < 2 ^ 31) (c : Int) (hc : -2147483648 ≤ c ∧ c < 2147483648) : ∀ (n : Nat) (i : Nat), (((i : Nat) : Int) + ((n : Nat) : Int) = E.1 0 1) → (post (some (.inl (s_co E set c n i))) M) → en_AW 1 0 200 post 2 [some (.inr (.inr (1, 6, b))), some (.inl ((set : Nat) : Int)), some (.inl c), some (.inl ((i : Nat) : Int))] [] M 0 := by
  intro n
  induction n with
  | zero =>
    intro i hi hq
    obtain ⟨n0, n1, n2, a0, a1, a2, a3, a4, a5, a6, a7⟩ := nm_J hJ hg
    have r0 : M.1 b 9 = E.1 0 0 := hJ.1.1
    have r1 : M.1 b 10 = E.1 0 1 := hJ.1.2.1
    have r2 : M.1 b 18 = E.1 0 2 := hJ.1.2.2.1
    have r3 : M.1 (b + 31) = E.1 1 := hJ.2.1.1
    refine aw_200_2 ?_
    refine br_ge_y (a := ((i : Nat) : Int)) (b := M.1 b 10) (by omega) (by omega) (by omega) ?_
    refine aw_200_36 ?_
    exact hq
  | succ n ih =>
    intro i hi hq
    obtain ⟨n0, n1, n2, a0, a1, a2, a3, a4, a5, a6, a7⟩ := nm_J hJ hg
    have r0 : M.1 b 9 = E.1 0 0 := hJ.1.1
    have r1 : M.1 b 10 = E.1 0 1 := hJ.1.2.1
    have r2 : M.1 b 18 = E.1 0 2 := hJ.1.2.2.1
    have r3 : M.1 (b + 31) = E.1 1 := hJ.2.1.1
    obtain ⟨k1, k2, k3, k4, k5, k6, k7⟩ := hg.2.1 i (by omega)
    have e4 : M.1 (b + 19) i = E.1 4 i := congrFun (hJ.2.1.2.2.2 4 (by decide) (by decide)) i
    have hbt := nu_bit (a := set) (w := i) hset (by omega)
    have hb1 := nu_and1 (en_shr ((set : Nat) : Int) ((i : Nat) : Int))
    refine aw_200_2 ?_
    refine br_ge_n (a := ((i : Nat) : Int)) (b := M.1 b 10) (by omega) (by omega) (by omega) ?_
    refine br_eq (a := en_and (en_shr ((set : Nat) : Int) ((i : Nat) : Int)) 1) (b := 0) (by omega) (by omega) (fun q2 => ?_) (fun q2 => ?_)
    · refine aw_200_30 ?_
      refine ih (i + 1) (by omega) ?_
      rw [s_co, if_neg (by rintro ⟨z1, z2⟩; rw [if_pos z1] at hbt; omega)] at hq
      exact hq
    · refine ⟨i, rfl, (show i < 24 by omega), ?_⟩
      refine br_ne (a := M.1 (b + 19) i) (b := c) (by omega) (by omega) (fun q3 => ?_) (fun q3 => ?_)
      · refine aw_200_30 ?_
        refine ih (i + 1) (by omega) ?_
        rw [s_co, if_neg (by rintro ⟨z1, z2⟩; rw [if_pos z1] at hbt; omega)] at hq
        exact hq
      · rw [s_co, if_pos (by refine ⟨?_, by omega⟩; by_cases z : set.testBit i = true; (· exact z); (· rw [if_neg z] at hbt; omega))] at hq
        exact hq
theorem R_columnOf (b : Nat) (E : Ev) (M : Mm) (hJ : isM M b E) (hg : s_ok E) (set : Nat) (hset : set < 2 ^ 31) (c : Int) (hc : -2147483648 ≤ c ∧ c < 2147483648) : en_Ct 1 0 200 [.inr (.inr (1, 6, b)), .inl ((set : Nat) : Int), .inl c] M (fun r M' => r = some (.inl (s_co E set c (E.1 0 1).toNat 0)) ∧ M' = M) := by
  obtain ⟨n0, n1, n2, a0, a1, a2, a3, a4, a5, a6, a7⟩ := nm_J hJ hg
  have r0 : M.1 b 9 = E.1 0 0 := hJ.1.1
  have r1 : M.1 b 10 = E.1 0 1 := hJ.1.2.1
  have r2 : M.1 b 18 = E.1 0 2 := hJ.1.2.2.1
  have r3 : M.1 (b + 31) = E.1 1 := hJ.2.1.1
  refine ct_200 rfl ?_
  refine aw_200_0 ?_
  exact L_columnOf b E M hJ hg set hset c hc (E.1 0 1).toNat 0 (by omega) ⟨rfl, rfl⟩
theorem V_col1 {b : Nat} {E : Ev} {M : Mm} (hJ : isM M b E) (hK : isK M b E) (hg : s_ok E) {q : Nat} (hq : (q : Int) < E.1 0 2) {c : Int} (hc : -2147483648 ≤ c ∧ c < 2147483648) : en_Ct 1 0 200 [.inr (.inr (1, 6, b)), .inl (M.1 (b + 34) q), .inl c] M (fun r M' => r = some (.inl (col1 E q c)) ∧ M' = M) := by
  rw [hK q hq]
  exact R_columnOf b E M hJ hg (kpw E q) (Nat.lt_trans (kpw_lt hg q) (by decide)) c hc
theorem col1_b {E : Ev} (hg : s_ok E) {q : Nat} {c : Int} : -1 ≤ col1 E q c ∧ col1 E q c ≤ 24 := by
  have key : ∀ (set : Nat) (n i : Nat), i + n ≤ 24 → -1 ≤ s_co E set c n i ∧ s_co E set c n i ≤ 24 := by
    intro set n
    induction n with
    | zero => intro i _; simp [s_co]
    | succ n ih =>
      intro i h
      unfold s_co
      split
      · omega
      · exact ih (i + 1) (by omega)
  exact key _ _ 0 (by have := hg.1.2.1; omega)
theorem and_1 {x : Int} (h : x = 0 ∨ x = 1) : en_and x 1 = x := by rcases h with h | h <;> subst h <;> decide
theorem and_0 {x : Int} (h : x = 0 ∨ x = 1) : en_and x 0 = 0 := by rcases h with h | h <;> subst h <;> decide
theorem al_s {P : Nat → Prop} {i : Nat} : (∀ q, q < i + 1 → P q) ↔ ((∀ q, q < i → P q) ∧ P i) := ⟨fun h => ⟨fun q hq => h q (by omega), h i (by omega)⟩, fun h q hq => (Nat.lt_succ_iff_lt_or_eq.mp hq).elim (h.1 q) (fun z => z ▸ h.2)⟩
theorem L_pointsAt {post : Option AV → Mm → Prop} (b : Nat) (E : Ev) (M : Mm) (hJ : isM M b E) (hK : isK M b E) (hg : s_ok E) (p c : Nat) (hp : (p : Int) < E.1 0 2) (hc : c < 5) (hw : col1 E p ((c : Nat) : Int) ≠ -1) (hq : post (some (.inl (pts E p ((c : Nat) : Int)))) M) : ∀ (n : Nat) (i : Nat) (x : Int) (y : Int), (((i : Nat) : Int) + ((n : Nat) : Int) = E.1 0 2) → (x = 0 ∨ x = 1) → (y = 0 ∨ y = 1) → (x = 1 ↔ ∀ q : Nat, q < i → q ≠ p → col1 E q ((c : Nat) : Int) = -1) → (y = 1 ↔ ∀ q : Nat, q < i → q ≠ p → col1 E q ((c : Nat) : Int) ≠ col1 E p ((c : Nat) : Int)) → en_AW 2 0 201 post 28 [some (.inr (.inr (1, 6, b))), some (.inl ((p : Nat) : Int)), some (.inl ((c : Nat) : Int)), some (.inl (col1 E p ((c : Nat) : Int))), some (.inl x), some (.inl y), some (.inl ((i : Nat) : Int)), none] [] M 0 := by
  intro n
  induction n with
  | zero =>
    intro i x y hi hx hy hxa hya
    obtain ⟨n0, n1, n2, a0, a1, a2, a3, a4, a5, a6, a7⟩ := nm_J hJ hg
    have r0 : M.1 b 9 = E.1 0 0 := hJ.1.1
    have r1 : M.1 b 10 = E.1 0 1 := hJ.1.2.1
    have r2 : M.1 b 18 = E.1 0 2 := hJ.1.2.2.1
    have r3 : M.1 (b + 31) = E.1 1 := hJ.2.1.1
    refine aw_201_28 ?_
    refine br_ge_y (a := ((i : Nat) : Int)) (b := M.1 b 18) (by omega) (by omega) (by omega) ?_
    refine aw_201_95 ?_
    refine br_eq (a := x) (b := 0) (by omega) (by omega) (fun q2 => ?_) (fun q2 => ?_)
    · refine aw_201_109 ?_
      refine br_eq (a := y) (b := 0) (by omega) (by omega) (fun q3 => ?_) (fun q3 => ?_)
      · refine aw_201_123 ?_
        refine ⟨5, rfl, (show 5 < 8 by omega), ?_⟩
        refine aw_201_129 ?_
        refine (show post (some (.inl (M.1 (b + 31) 5))) M from ?_)
        rw [r3]
        rw [pts_at1 hg hp hw, if_neg (by rw [show (E.1 0 2).toNat = i by omega]; exact fun z => absurd (hxa.mpr z) (by omega)), if_neg (by rw [show (E.1 0 2).toNat = i by omega]; exact fun z => absurd (hya.mpr z) (by omega))] at hq
        exact hq
      · refine ⟨4, rfl, (show 4 < 8 by omega), ?_⟩
        refine aw_201_129 ?_
        refine (show post (some (.inl (M.1 (b + 31) 4))) M from ?_)
        rw [r3]
        rw [pts_at1 hg hp hw, if_neg (by rw [show (E.1 0 2).toNat = i by omega]; exact fun z => absurd (hxa.mpr z) (by omega)), if_pos (by rw [show (E.1 0 2).toNat = i by omega]; exact hya.mp (by omega))] at hq
        exact hq
    · refine ⟨3, rfl, (show 3 < 8 by omega), ?_⟩
      refine aw_201_129 ?_
      refine (show post (some (.inl (M.1 (b + 31) 3))) M from ?_)
      rw [r3]
      rw [pts_at1 hg hp hw, if_pos (by rw [show (E.1 0 2).toNat = i by omega]; exact hxa.mp (by omega))] at hq
      exact hq
  | succ n ih =>
    intro i x y hi hx hy hxa hya
    obtain ⟨n0, n1, n2, a0, a1, a2, a3, a4, a5, a6, a7⟩ := nm_J hJ hg
    have r0 : M.1 b 9 = E.1 0 0 := hJ.1.1
    have r1 : M.1 b 10 = E.1 0 1 := hJ.1.2.1
    have r2 : M.1 b 18 = E.1 0 2 := hJ.1.2.2.1
    have r3 : M.1 (b + 31) = E.1 1 := hJ.2.1.1
    have hcp := col1_b (q := p) (c := ((c : Nat) : Int)) hg
    refine aw_201_28 ?_
    refine br_ge_n (a := ((i : Nat) : Int)) (b := M.1 b 18) (by omega) (by omega) (by omega) ?_
    refine br_eq (a := ((i : Nat) : Int)) (b := ((p : Nat) : Int)) (by omega) (by omega) (fun q2 => ?_) (fun q2 => ?_)
    · refine aw_201_89 ?_
      refine en_AW_drop [true, true, true, true, true, true, true, false] ?_
      exact ih (i + 1) x y (by omega) hx hy (by rw [hxa, al_s (P := fun q => q ≠ p → col1 E q ((c : Nat) : Int) = -1)]; exact ⟨fun z => ⟨z, fun z2 => absurd (show i = p by omega) z2⟩, fun z => z.1⟩) (by rw [hya, al_s (P := fun q => q ≠ p → col1 E q ((c : Nat) : Int) ≠ col1 E p ((c : Nat) : Int))]; exact ⟨fun z => ⟨z, fun z2 => absurd (show i = p by omega) z2⟩, fun z => z.1⟩)
    · refine ⟨i, rfl, (show i < 4 by omega), ?_⟩
      refine ⟨1, 0, by first | decide | omega, by first | decide | omega, en_Ct_eq (V_col1 (b := b) (E := E) (M := M) hJ hK hg (q := i) (by omega) (c := ((c : Nat) : Int)) (by omega)) ?_⟩
      have cb3 := col1_b (q := i) (c := ((c : Nat) : Int)) hg
      refine br_ne (a := col1 E i ((c : Nat) : Int)) (b := (-1)) (by omega) (by omega) (fun q4 => ?_) (fun q4 => ?_)
      · refine aw_201_69 ?_
        refine aw_201_70 ?_
        refine br_eq (a := col1 E i ((c : Nat) : Int)) (b := col1 E p ((c : Nat) : Int)) (by omega) (by omega) (fun q5 => ?_) (fun q5 => ?_)
        · refine aw_201_85 ?_
          refine aw_201_86 ?_
          refine aw_201_89 ?_
          refine en_AW_drop [true, true, true, true, true, true, true, false] ?_
          refine en_AW_ls (congrArg (fun z_ : Int => ([some (.inr (.inr (1, 6, b))), some (.inl ((p : Nat) : Int)), some (.inl ((c : Nat) : Int)), some (.inl (col1 E p ((c : Nat) : Int))), some (.inl z_), some (.inl (en_and y 0)), some (.inl (((i : Nat) : Int) + 1)), none] : AL)) (show en_and x 0 = 0 from and_0 hx)) ?_
          refine en_AW_ls (congrArg (fun z_ : Int => ([some (.inr (.inr (1, 6, b))), some (.inl ((p : Nat) : Int)), some (.inl ((c : Nat) : Int)), some (.inl (col1 E p ((c : Nat) : Int))), some (.inl 0), some (.inl z_), some (.inl (((i : Nat) : Int) + 1)), none] : AL)) (show en_and y 0 = 0 from and_0 hy)) ?_
          exact ih (i + 1) 0 0 (by omega) (by omega) (by omega) (by rw [al_s (P := fun q => q ≠ p → col1 E q ((c : Nat) : Int) = -1)]; exact ⟨fun z => by omega, fun z => absurd (z.2 (by omega)) (by omega)⟩) (by rw [al_s (P := fun q => q ≠ p → col1 E q ((c : Nat) : Int) ≠ col1 E p ((c : Nat) : Int))]; exact ⟨fun z => by omega, fun z => absurd (z.2 (by omega)) (by omega)⟩)
        · refine aw_201_86 ?_
          refine aw_201_89 ?_
          refine en_AW_drop [true, true, true, true, true, true, true, false] ?_
          refine en_AW_ls (congrArg (fun z_ : Int => ([some (.inr (.inr (1, 6, b))), some (.inl ((p : Nat) : Int)), some (.inl ((c : Nat) : Int)), some (.inl (col1 E p ((c : Nat) : Int))), some (.inl z_), some (.inl (en_and y 1)), some (.inl (((i : Nat) : Int) + 1)), none] : AL)) (show en_and x 0 = 0 from and_0 hx)) ?_
          refine en_AW_ls (congrArg (fun z_ : Int => ([some (.inr (.inr (1, 6, b))), some (.inl ((p : Nat) : Int)), some (.inl ((c : Nat) : Int)), some (.inl (col1 E p ((c : Nat) : Int))), some (.inl 0), some (.inl z_), some (.inl (((i : Nat) : Int) + 1)), none] : AL)) (show en_and y 1 = y from and_1 hy)) ?_
          exact ih (i + 1) 0 y (by omega) (by omega) (by omega) (by rw [al_s (P := fun q => q ≠ p → col1 E q ((c : Nat) : Int) = -1)]; exact ⟨fun z => by omega, fun z => absurd (z.2 (by omega)) (by omega)⟩) (by rw [al_s (P := fun q => q ≠ p → col1 E q ((c : Nat) : Int) ≠ col1 E p ((c : Nat) : Int)), ← hya]; exact ⟨fun z => ⟨z, fun _ => by omega⟩, fun z => z.1⟩)
      · refine aw_201_70 ?_
        refine br_eq (a := col1 E i ((c : Nat) : Int)) (b := col1 E p ((c : Nat) : Int)) (by omega) (by omega) (fun q6 => ?_) (fun q6 => ?_)
        · refine aw_201_85 ?_
          refine aw_201_86 ?_
          refine aw_201_89 ?_
          refine en_AW_drop [true, true, true, true, true, true, true, false] ?_
          refine en_AW_ls (congrArg (fun z_ : Int => ([some (.inr (.inr (1, 6, b))), some (.inl ((p : Nat) : Int)), some (.inl ((c : Nat) : Int)), some (.inl (col1 E p ((c : Nat) : Int))), some (.inl z_), some (.inl (en_and y 0)), some (.inl (((i : Nat) : Int) + 1)), none] : AL)) (show en_and x 1 = x from and_1 hx)) ?_
          refine en_AW_ls (congrArg (fun z_ : Int => ([some (.inr (.inr (1, 6, b))), some (.inl ((p : Nat) : Int)), some (.inl ((c : Nat) : Int)), some (.inl (col1 E p ((c : Nat) : Int))), some (.inl x), some (.inl z_), some (.inl (((i : Nat) : Int) + 1)), none] : AL)) (show en_and y 0 = 0 from and_0 hy)) ?_
          exact ih (i + 1) x 0 (by omega) (by omega) (by omega) (by rw [al_s (P := fun q => q ≠ p → col1 E q ((c : Nat) : Int) = -1), ← hxa]; exact ⟨fun z => ⟨z, fun _ => by omega⟩, fun z => z.1⟩) (by rw [al_s (P := fun q => q ≠ p → col1 E q ((c : Nat) : Int) ≠ col1 E p ((c : Nat) : Int))]; exact ⟨fun z => by omega, fun z => absurd (z.2 (by omega)) (by omega)⟩)
        · refine aw_201_86 ?_
          refine aw_201_89 ?_
          refine en_AW_drop [true, true, true, true, true, true, true, false] ?_
          refine en_AW_ls (congrArg (fun z_ : Int => ([some (.inr (.inr (1, 6, b))), some (.inl ((p : Nat) : Int)), some (.inl ((c : Nat) : Int)), some (.inl (col1 E p ((c : Nat) : Int))), some (.inl z_), some (.inl (en_and y 1)), some (.inl (((i : Nat) : Int) + 1)), none] : AL)) (show en_and x 1 = x from and_1 hx)) ?_
          refine en_AW_ls (congrArg (fun z_ : Int => ([some (.inr (.inr (1, 6, b))), some (.inl ((p : Nat) : Int)), some (.inl ((c : Nat) : Int)), some (.inl (col1 E p ((c : Nat) : Int))), some (.inl x), some (.inl z_), some (.inl (((i : Nat) : Int) + 1)), none] : AL)) (show en_and y 1 = y from and_1 hy)) ?_
          exact ih (i + 1) x y (by omega) (by omega) (by omega) (by rw [al_s (P := fun q => q ≠ p → col1 E q ((c : Nat) : Int) = -1), ← hxa]; exact ⟨fun z => ⟨z, fun _ => by omega⟩, fun z => z.1⟩) (by rw [al_s (P := fun q => q ≠ p → col1 E q ((c : Nat) : Int) ≠ col1 E p ((c : Nat) : Int)), ← hya]; exact ⟨fun z => ⟨z, fun _ => by omega⟩, fun z => z.1⟩)
theorem R_pointsAt (b : Nat) (E : Ev) (M : Mm) (hJ : isM M b E) (hK : isK M b E) (hg : s_ok E) (p c : Nat) (hp : (p : Int) < E.1 0 2) (hc : c < 5) : en_Ct 2 0 201 [.inr (.inr (1, 6, b)), .inl ((p : Nat) : Int), .inl ((c : Nat) : Int)] M (fun r M' => r = some (.inl (pts E p ((c : Nat) : Int))) ∧ M' = M) := by
  obtain ⟨n0, n1, n2, a0, a1, a2, a3, a4, a5, a6, a7⟩ := nm_J hJ hg
  have r0 : M.1 b 9 = E.1 0 0 := hJ.1.1
  have r1 : M.1 b 10 = E.1 0 1 := hJ.1.2.1
  have r2 : M.1 b 18 = E.1 0 2 := hJ.1.2.2.1
  have r3 : M.1 (b + 31) = E.1 1 := hJ.2.1.1
  refine ct_201 rfl ?_
  refine aw_201_0 ?_
  refine ⟨p, rfl, (show p < 4 by omega), ?_⟩
  refine ⟨1, 0, by first | decide | omega, by first | decide | omega, en_Ct_eq (V_col1 (b := b) (E := E) (M := M) hJ hK hg (q := p) (by omega) (c := ((c : Nat) : Int)) (by omega)) ?_⟩
  have cb1 := col1_b (q := p) (c := ((c : Nat) : Int)) hg
  refine br_ne (a := col1 E p ((c : Nat) : Int)) (b := (-1)) (by omega) (by omega) (fun q2 => ?_) (fun q2 => ?_)
  · refine aw_201_19 ?_
    exact L_pointsAt b E M hJ hK hg p c hp hc (by omega) ⟨rfl, rfl⟩ (E.1 0 2).toNat 0 1 1 (by omega) (by omega) (by omega) ⟨fun _ q hq => absurd hq (Nat.not_lt_zero q), fun _ => rfl⟩ ⟨fun _ q hq => absurd hq (Nat.not_lt_zero q), fun _ => rfl⟩
  · exact ⟨congrArg (fun z => some (Sum.inl z)) (pts_at0 hg (by omega) (by omega)).symm, rfl⟩
theorem ps_b {E : Ev} (hg : s_ok E) {p : Nat} (hp : p < 4) : ∀ n, n ≤ 5 → 0 ≤ s_ps E p (s_shl E p) n ∧ s_ps E p (s_shl E p) n ≤ 250 * (n : Int)
  | 0, _ => by simp [s_ps]
  | n + 1, h => by
    have ih := ps_b hg hp n (by omega)
    have := pts_b (E := E) (p := p) (c := (n : Int)) hg hp
    unfold s_ps
    unfold pts at this
    omega
theorem L_pointsOf {post : Option AV → Mm → Prop} (b : Nat) (E : Ev) (M : Mm) (hJ : isM M b E) (hK : isK M b E) (hg : s_ok E) (p : Nat) (hp : (p : Int) < E.1 0 2) (hq : post (some (.inl (pts E p (-1)))) M) : ∀ (n : Nat) (i : Nat), (((i : Nat) : Int) + ((n : Nat) : Int) = E.1 0 0) → en_AW 3 0 202 post 4 [some (.inr (.inr (1, 6, b))), some (.inl ((p : Nat) : Int)), some (.inl (s_ps E p (s_shl E p) i)), some (.inl ((i : Nat) : Int))] [] M 0 := by
  intro n
  induction n with
  | zero =>
    intro i hi
    obtain ⟨n0, n1, n2, a0, a1, a2, a3, a4, a5, a6, a7⟩ := nm_J hJ hg
    have r0 : M.1 b 9 = E.1 0 0 := hJ.1.1
    have r1 : M.1 b 10 = E.1 0 1 := hJ.1.2.1
    have r2 : M.1 b 18 = E.1 0 2 := hJ.1.2.2.1
    have r3 : M.1 (b + 31) = E.1 1 := hJ.2.1.1
    refine aw_202_4 ?_
    refine br_ge_y (a := ((i : Nat) : Int)) (b := M.1 b 9) (by omega) (by omega) (by omega) ?_
    refine aw_202_27 ?_
    rw [← pts_sum hg (by omega), show (E.1 0 0).toNat = i by omega] at hq
    exact hq
  | succ n ih =>
    intro i hi
    obtain ⟨n0, n1, n2, a0, a1, a2, a3, a4, a5, a6, a7⟩ := nm_J hJ hg
    have r0 : M.1 b 9 = E.1 0 0 := hJ.1.1
    have r1 : M.1 b 10 = E.1 0 1 := hJ.1.2.1
    have r2 : M.1 b 18 = E.1 0 2 := hJ.1.2.2.1
    have r3 : M.1 (b + 31) = E.1 1 := hJ.2.1.1
    have hb := ps_b hg (p := p) (by omega) i (by omega)
    refine aw_202_4 ?_
    refine br_ge_n (a := ((i : Nat) : Int)) (b := M.1 b 9) (by omega) (by omega) (by omega) ?_
    refine ⟨2, 0, by first | decide | omega, by first | decide | omega, en_Ct_eq (R_pointsAt b E M hJ hK hg p i (by omega) (by omega)) ?_⟩
    have pb2 := pts_b (E := E) (p := p) (c := ((i : Nat) : Int)) hg (by omega)
    exact ih (i + 1) (by omega)
theorem R_pointsOf (b : Nat) (E : Ev) (M : Mm) (hJ : isM M b E) (hK : isK M b E) (hg : s_ok E) (p : Nat) (hp : (p : Int) < E.1 0 2) : en_Ct 3 0 202 [.inr (.inr (1, 6, b)), .inl ((p : Nat) : Int)] M (fun r M' => r = some (.inl (pts E p (-1))) ∧ M' = M) := by
  obtain ⟨n0, n1, n2, a0, a1, a2, a3, a4, a5, a6, a7⟩ := nm_J hJ hg
  have r0 : M.1 b 9 = E.1 0 0 := hJ.1.1
  have r1 : M.1 b 10 = E.1 0 1 := hJ.1.2.1
  have r2 : M.1 b 18 = E.1 0 2 := hJ.1.2.2.1
  have r3 : M.1 (b + 31) = E.1 1 := hJ.2.1.1
  refine ct_202 rfl ?_
  refine aw_202_0 ?_
  exact L_pointsOf b E M hJ hK hg p hp ⟨rfl, rfl⟩ (E.1 0 0).toNat 0 (by omega)
theorem V_pointsOf {b : Nat} {E : Ev} {M : Mm} (hJ : isM M b E) (hK : isK M b E) (hg : s_ok E) {x : Int} (h0 : 0 ≤ x) (h1 : x < E.1 0 2) : en_Ct 3 0 202 [.inr (.inr (1, 6, b)), .inl x] M (fun r M' => r = some (.inl (pts E x.toNat (-1))) ∧ M' = M) := by
  have h := R_pointsOf b E M hJ hK hg x.toNat (by omega)
  rw [show ((x.toNat : Nat) : Int) = x by omega] at h
  exact h
theorem R_pointsNow (b : Nat) (E : Ev) (M : Mm) (hJ : isM M b E) (hg : s_ok E) (p : Nat) (hp : (p : Int) < E.1 0 2) : en_Ct 6 0 203 [.inr (.inr (1, 6, b)), .inl ((p : Nat) : Int)] M (fun r M' => r = some (.inl (pts E p (-1))) ∧ fr (b + 34) (b + 35) M M' ∧ isK M' b E) := by
  obtain ⟨n0, n1, n2, a0, a1, a2, a3, a4, a5, a6, a7⟩ := nm_J hJ hg
  have r0 : M.1 b 9 = E.1 0 0 := hJ.1.1
  have r1 : M.1 b 10 = E.1 0 1 := hJ.1.2.1
  have r2 : M.1 b 18 = E.1 0 2 := hJ.1.2.2.1
  have r3 : M.1 (b + 31) = E.1 1 := hJ.2.1.1
  refine ct_203 rfl ?_
  refine aw_203_0 ?_
  refine ⟨5, 0, by first | decide | omega, by first | decide | omega, en_Ct_mono (R_findKept b E M hJ hg) ?_⟩
  rintro _ K1 ⟨rfl, hf2, hK⟩
  replace hJ := isM_k hJ hf2
  refine ⟨3, 0, by first | decide | omega, by first | decide | omega, en_Ct_eq (V_pointsOf (b := b) (E := E) (M := K1) hJ hK hg (x := ((p : Nat) : Int)) (by omega) (by omega)) ?_⟩
  have pb3 := pts_b (E := E) (p := p) (c := -1) hg (by omega)
  exact ⟨rfl, hf2, hK⟩
theorem L_mostBut {post : Option AV → Mm → Prop} (b : Nat) (E : Ev) (M : Mm) (hJ : isM M b E) (hK : isK M b E) (hg : s_ok E) (o : Int) (ho : -2147483648 ≤ o ∧ o < 2147483648) (hq : post (some (.inl (s_ld E o (E.1 0 2).toNat).1)) M) : ∀ (n : Nat) (i : Nat), (((i : Nat) : Int) + ((n : Nat) : Int) = E.1 0 2) → en_AW 6 0 205 post 8 [some (.inr (.inr (1, 6, b))), some (.inl o), some (.inl ((s_ld E o i).1)), some (.inl ((i : Nat) : Int))] [] M 0 := by
  intro n
  induction n with
  | zero =>
    intro i hi
    obtain ⟨n0, n1, n2, a0, a1, a2, a3, a4, a5, a6, a7⟩ := nm_J hJ hg
    have r0 : M.1 b 9 = E.1 0 0 := hJ.1.1
    have r1 : M.1 b 10 = E.1 0 1 := hJ.1.2.1
    have r2 : M.1 b 18 = E.1 0 2 := hJ.1.2.2.1
    have r3 : M.1 (b + 31) = E.1 1 := hJ.2.1.1
    refine aw_205_8 ?_
    refine br_ge_y (a := ((i : Nat) : Int)) (b := M.1 b 18) (by omega) (by omega) (by omega) ?_
    refine aw_205_47 ?_
    rw [show (E.1 0 2).toNat = i by omega] at hq
    exact hq
  | succ n ih =>
    intro i hi
    obtain ⟨n0, n1, n2, a0, a1, a2, a3, a4, a5, a6, a7⟩ := nm_J hJ hg
    have r0 : M.1 b 9 = E.1 0 0 := hJ.1.1
    have r1 : M.1 b 10 = E.1 0 1 := hJ.1.2.1
    have r2 : M.1 b 18 = E.1 0 2 := hJ.1.2.2.1
    have r3 : M.1 (b + 31) = E.1 1 := hJ.2.1.1
    have hb := s_ld_b (o := o) hg i (by omega)
    have hpi := pts_b (E := E) (p := i) (c := -1) hg (by omega)
    have hl : ((s_ld E o i).1 = -1 ∧ (s_ld E o i).2 = -1) ∨ (0 ≤ (s_ld E o i).1 ∧ (s_ld E o i).2 = pts E (s_ld E o i).1.toNat (-1)) := by
      rcases ld_pts (o := o) hg i (by omega) with z | ⟨k, k1, k2, k3, k4⟩
      · exact Or.inl z
      · refine Or.inr ⟨by omega, ?_⟩
        rw [k3, k2, Int.toNat_natCast]
    refine aw_205_8 ?_
    refine br_ge_n (a := ((i : Nat) : Int)) (b := M.1 b 18) (by omega) (by omega) (by omega) ?_
    refine br_eq (a := ((i : Nat) : Int)) (b := o) (by omega) (by omega) (fun q2 => ?_) (fun q2 => ?_)
    · refine aw_205_41 ?_
      refine en_AW_ls (congrArg (fun z_ : Int => ([some (.inr (.inr (1, 6, b))), some (.inl o), some (.inl z_), some (.inl (((i : Nat) : Int) + 1))] : AL)) (show (s_ld E o i).1 = (s_ld E o (i + 1)).1 from congrArg Prod.fst (ld_f (x := if (i : Int) = o then -1 else pts E i (-1)) rfl (by first | (rw [if_pos (by omega)]; omega) | (rw [if_neg (by omega)]; omega))))) ?_
      exact ih (i + 1) (by omega)
    · refine br_eq (a := (s_ld E o i).1) (b := (-1)) (by omega) (by omega) (fun q3 => ?_) (fun q3 => ?_)
      · refine aw_205_39 ?_
        refine aw_205_41 ?_
        refine en_AW_ls (congrArg (fun z_ : Int => ([some (.inr (.inr (1, 6, b))), some (.inl o), some (.inl z_), some (.inl (((i : Nat) : Int) + 1))] : AL)) (show ((i : Nat) : Int) = (s_ld E o (i + 1)).1 from congrArg Prod.fst (ld_t (x := if (i : Int) = o then -1 else pts E i (-1)) rfl (by rw [if_neg (by omega)]; omega)))) ?_
        exact ih (i + 1) (by omega)
      · refine ⟨3, 0, by first | decide | omega, by first | decide | omega, en_Ct_eq (V_pointsOf (b := b) (E := E) (M := M) hJ hK hg (x := ((i : Nat) : Int)) (by omega) (by omega)) ?_⟩
        have pb4 := pts_b (E := E) (p := i) (c := -1) hg (by omega)
        refine ⟨3, 0, by first | decide | omega, by first | decide | omega, en_Ct_eq (V_pointsOf (b := b) (E := E) (M := M) hJ hK hg (x := ((s_ld E o i).1)) (by omega) (by omega)) ?_⟩
        have pb5 := pts_b (E := E) (p := (((s_ld E o i).1).toNat)) (c := -1) hg (by omega)
        refine br_le (a := pts E i (-1)) (b := pts E (((s_ld E o i).1).toNat) (-1)) (by omega) (by omega) (fun q6 => ?_) (fun q6 => ?_)
        · refine aw_205_41 ?_
          refine en_AW_ls (congrArg (fun z_ : Int => ([some (.inr (.inr (1, 6, b))), some (.inl o), some (.inl z_), some (.inl (((i : Nat) : Int) + 1))] : AL)) (show (s_ld E o i).1 = (s_ld E o (i + 1)).1 from congrArg Prod.fst (ld_f (x := if (i : Int) = o then -1 else pts E i (-1)) rfl (by first | (rw [if_pos (by omega)]; omega) | (rw [if_neg (by omega)]; omega))))) ?_
          exact ih (i + 1) (by omega)
        · refine aw_205_39 ?_
          refine aw_205_41 ?_
          refine en_AW_ls (congrArg (fun z_ : Int => ([some (.inr (.inr (1, 6, b))), some (.inl o), some (.inl z_), some (.inl (((i : Nat) : Int) + 1))] : AL)) (show ((i : Nat) : Int) = (s_ld E o (i + 1)).1 from congrArg Prod.fst (ld_t (x := if (i : Int) = o then -1 else pts E i (-1)) rfl (by rw [if_neg (by omega)]; omega)))) ?_
          exact ih (i + 1) (by omega)
theorem R_mostBut (b : Nat) (E : Ev) (M : Mm) (hJ : isM M b E) (hg : s_ok E) (o : Int) (ho : -2147483648 ≤ o ∧ o < 2147483648) : en_Ct 6 0 205 [.inr (.inr (1, 6, b)), .inl o] M (fun r M' => r = some (.inl (s_ld E o (E.1 0 2).toNat).1) ∧ fr (b + 34) (b + 35) M M' ∧ isK M' b E) := by
  obtain ⟨n0, n1, n2, a0, a1, a2, a3, a4, a5, a6, a7⟩ := nm_J hJ hg
  have r0 : M.1 b 9 = E.1 0 0 := hJ.1.1
  have r1 : M.1 b 10 = E.1 0 1 := hJ.1.2.1
  have r2 : M.1 b 18 = E.1 0 2 := hJ.1.2.2.1
  have r3 : M.1 (b + 31) = E.1 1 := hJ.2.1.1
  refine ct_205 rfl ?_
  refine aw_205_0 ?_
  refine ⟨5, 0, by first | decide | omega, by first | decide | omega, en_Ct_mono (R_findKept b E M hJ hg) ?_⟩
  rintro _ K1 ⟨rfl, hf2, hK⟩
  replace hJ := isM_k hJ hf2
  exact L_mostBut b E K1 hJ hK hg o ho ⟨rfl, hf2, hK⟩ (E.1 0 2).toNat 0 (by omega)
