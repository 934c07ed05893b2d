theorem col_b {E : Ev} (hg : s_ok E) {x : Int} (h0 : 0 ≤ x) (h1 : x < E.1 0 1) : 0 ≤ E.1 4 x.toNat ∧ E.1 4 x.toNat < 5 := by
  obtain ⟨-, -, h3, -⟩ := hg.2.1 x.toNat (by omega)
  have := hg.1.1
  omega
theorem L_mf {post : Option AV → Mm → Prop} (E : Ev) (M : Mm) (hJ : isM M 84 E) (hg : s_ok E) (p : Nat) (hp : p < 4) (A L m : Nat) (hm : m < L) (hL : L ≤ 40) (hr : -9223372036854775808 ≤ M.2 A m ∧ M.2 A m < 9223372036854775808) (hlow : ∀ k, k < m → 0 ≤ M.2 A k ∧ M.2 A k < E.1 0 1) (h0m : 0 ≤ M.2 A m ∧ M.2 A m < E.1 0 1) (hq1 : (∀ k, k < m → E.1 4 (M.2 A k).toNat ≠ E.1 4 (M.2 A m).toNat) → post (some (.inl 1)) M) (hq0 : ¬ (∀ k, k < m → E.1 4 (M.2 A k).toNat ≠ E.1 4 (M.2 A m).toNat) → post (some (.inl 0)) M) : ∀ (n : Nat) (i : Nat), (i + n = m) → (∀ k, k < i → E.1 4 (M.2 A k).toNat ≠ E.1 4 (M.2 A m).toNat) → en_AW 3 0 165 post 34 [some (.inr (.inr (1, 6, 84))), some (.inl ((p : Nat) : Int)), some (.inr (.inr (4, L, A))), some (.inl ((m : Nat) : Int)), some (.inl ((i : Nat) : Int))] [] M 0 := by
  intro n
  induction n with
  | zero =>
    intro i hi ha
    refine aw_165_34 ?_
    refine br_ge_y (a := ((i : Nat) : Int)) (b := ((m : Nat) : Int)) (by omega) (by omega) (by omega) ?_
    refine aw_165_70 ?_
    exact ⟨Or.inr rfl, hq1 (fun k hk => ha k (by omega))⟩
  | succ n ih =>
    intro i hi ha
    obtain ⟨n0, n1, n2, a0, a1, a2, a3, a4, a5, a6, a7⟩ := hg.1
    have r0 : M.1 84 9 = E.1 0 0 := hJ.1.1
    have r1 : M.1 84 10 = E.1 0 1 := hJ.1.2.1
    have r2 : M.1 84 18 = E.1 0 2 := hJ.1.2.2.1
    have e4 : ∀ j, M.1 103 j = E.1 4 j := fun j => congrFun (hJ.2.1.2.2.2 4 (by decide) (by decide)) j
    have hwi := hlow i (by omega)
    have c1 := col_b hg hwi.1 hwi.2
    have c2 := col_b hg h0m.1 h0m.2
    rw [← e4] at c1 c2
    refine aw_165_34 ?_
    refine br_ge_n (a := ((i : Nat) : Int)) (b := ((m : Nat) : Int)) (by omega) (by omega) (by omega) ?_
    refine ⟨i, rfl, (show i < L by omega), ?_⟩
    refine ⟨(M.2 A i).toNat, it_nn (x := M.2 A i) (by omega), (show (M.2 A i).toNat < 24 by omega), ?_⟩
    refine ⟨m, rfl, (show m < L by omega), ?_⟩
    refine ⟨(M.2 A m).toNat, it_nn (x := M.2 A m) (by omega), (show (M.2 A m).toNat < 24 by omega), ?_⟩
    refine br_ne (a := M.1 103 ((M.2 A i).toNat)) (b := M.1 103 ((M.2 A m).toNat)) (by omega) (by omega) (fun q2 => ?_) (fun q2 => ?_)
    · refine aw_165_64 ?_
      refine ih (i + 1) (by omega) (fun k hk => ?_)
      by_cases hki : k = i
      · subst hki; rw [← e4, ← e4]; assumption
      · exact ha k (by omega)
    · exact ⟨Or.inl rfl, hq0 (fun z => z i (by omega) (by rw [← e4, ← e4]; assumption))⟩
theorem R_mf (E : Ev) (M : Mm) (hJ : isM M 84 E) (hg : s_ok E) (p : Nat) (hp : p < 4) (A L m : Nat) (hm : m < L) (hL : L ≤ 40) (hr : -9223372036854775808 ≤ M.2 A m ∧ M.2 A m < 9223372036854775808) (hlow : ∀ k, k < m → 0 ≤ M.2 A k ∧ M.2 A k < E.1 0 1) : en_Ct 3 0 165 [.inr (.inr (1, 6, 84)), .inl ((p : Nat) : Int), .inr (.inr (4, L, A)), .inl ((m : Nat) : Int)] M (fun r M' => r = some (.inl (if s_mf E p (M.2 A) m then 1 else 0)) ∧ M' = M) := by
  obtain ⟨n0, n1, n2, a0, a1, a2, a3, a4, a5, a6, a7⟩ := hg.1
  have r0 : M.1 84 9 = E.1 0 0 := hJ.1.1
  have r1 : M.1 84 10 = E.1 0 1 := hJ.1.2.1
  have r2 : M.1 84 18 = E.1 0 2 := hJ.1.2.2.1
  refine ct_165 rfl ?_
  refine aw_165_0 ?_
  refine ⟨m, rfl, (show m < L by omega), ?_⟩
  by_cases c1 : 0 ≤ (M.2 A m) ∧ (M.2 A m) ≤ ((M.1 84 10) - 1)
  · refine ⟨1, 0, by first | decide | omega, by first | decide | omega, en_Ct_t (R_in (M.2 A m) 0 (en_wr ((M.1 84 10) - 1)) (M.2 A m) 0 ((M.1 84 10) - 1) (wl_of ⟨by omega, by omega⟩) (wl_of ⟨by omega, by omega⟩) (wl_wr ⟨by omega, by omega⟩) _) c1 ?_⟩
    refine br_eq_n (by decide) (by decide) (by decide) ?_
    refine ⟨m, rfl, (show m < L by omega), ?_⟩
    by_cases c3 : s_can E p ((M.2 A m).toNat) = true
    · refine ⟨1, 0, by first | decide | omega, by first | decide | omega, en_Ct_t (V_can (b := 84) (E := E) (M := M) hJ hg (p := p) (x := (M.2 A m)) (by omega) (by omega) (by omega)) c3 ?_⟩
      refine br_ne_y (by decide) (by decide) (by decide) ?_
      refine aw_165_31 ?_
      exact L_mf E M hJ hg p hp A L m hm hL hr hlow (by omega) (fun z => ⟨congrArg (fun z => some (Sum.inl z)) (if_pos ⟨by omega, ‹_›, z⟩).symm, rfl⟩) (fun z => ⟨congrArg (fun z => some (Sum.inl z)) (if_neg (fun y => z y.2.2)).symm, rfl⟩) m 0 (by omega) (fun k hk => absurd hk (Nat.not_lt_zero k))
    · refine ⟨1, 0, by first | decide | omega, by first | decide | omega, en_Ct_f (V_can (b := 84) (E := E) (M := M) hJ hg (p := p) (x := (M.2 A m)) (by omega) (by omega) (by omega)) c3 ?_⟩
      refine br_ne_n (by decide) (by decide) (by decide) ?_
      refine aw_165_29 ?_
      refine ⟨Or.inl rfl, congrArg (fun z => some (Sum.inl z)) (if_neg (fun z => ?_)).symm, rfl⟩
      first | (have := z.1; omega) | (have := z.2.1; contradiction)
  · refine ⟨1, 0, by first | decide | omega, by first | decide | omega, en_Ct_f (R_in (M.2 A m) 0 (en_wr ((M.1 84 10) - 1)) (M.2 A m) 0 ((M.1 84 10) - 1) (wl_of ⟨by omega, by omega⟩) (wl_of ⟨by omega, by omega⟩) (wl_wr ⟨by omega, by omega⟩) _) c1 ?_⟩
    refine br_eq_y (by decide) (by decide) (by decide) ?_
    refine aw_165_29 ?_
    refine ⟨Or.inl rfl, congrArg (fun z => some (Sum.inl z)) (if_neg (fun z => ?_)).symm, rfl⟩
    first | (have := z.1; omega) | (have := z.2.1; contradiction)
theorem L_wi {post : Option AV → Mm → Prop} (E : Ev) (M : Mm) (hJ : isM M 84 E) (hg : s_ok E) (p : Nat) (hp : p < 4) (A L m : Nat) (hm : m ≤ L) (hL : L ≤ 40) (hr : ∀ i : Nat, i < m → -9223372036854775808 ≤ M.2 A i ∧ M.2 A i < 9223372036854775808) : ∀ (n : Nat) (i : Nat), (i + n = m) → (∀ k, k < i → 0 ≤ M.2 A k ∧ M.2 A k < E.1 0 1) → (post (some (.inl (s_wi E p (M.2 A) n i))) M) → en_AW 4 0 166 post 3 [some (.inr (.inr (1, 6, 84))), some (.inl ((p : Nat) : Int)), some (.inr (.inr (4, L, A))), some (.inl ((m : Nat) : Int)), some (.inl ((i : Nat) : Int))] [] M 0 := by
  intro n
  induction n with
  | zero =>
    intro i hi hlow hq
    refine aw_166_3 ?_
    refine br_ge_y (a := ((i : Nat) : Int)) (b := ((m : Nat) : Int)) (by omega) (by omega) (by omega) ?_
    refine aw_166_29 ?_
    exact hq
  | succ n ih =>
    intro i hi hlow hq
    obtain ⟨n0, n1, n2, a0, a1, a2, a3, a4, a5, a6, a7⟩ := hg.1
    have r0 : M.1 84 9 = E.1 0 0 := hJ.1.1
    have r1 : M.1 84 10 = E.1 0 1 := hJ.1.2.1
    have r2 : M.1 84 18 = E.1 0 2 := hJ.1.2.2.1
    refine aw_166_3 ?_
    refine br_ge_n (a := ((i : Nat) : Int)) (b := ((m : Nat) : Int)) (by omega) (by omega) (by omega) ?_
    by_cases c2 : s_mf E p (M.2 A) i
    · refine ⟨3, 0, by first | decide | omega, by first | decide | omega, en_Ct_t (R_mf E M hJ hg p (by omega) A L i (by omega) (by omega) (hr _ (by omega)) hlow) c2 ?_⟩
      refine br_ne_y (by decide) (by decide) (by decide) ?_
      refine aw_166_23 ?_
      have hmf : s_mf E p (M.2 A) i := ‹_›
      refine ih (i + 1) (by omega) (fun k hk => ?_) (by rw [s_wi, if_pos hmf] at hq; exact hq)
      by_cases hki : k = i
      · subst hki; exact hmf.1
      · exact hlow k (by omega)
    · refine ⟨3, 0, by first | decide | omega, by first | decide | omega, en_Ct_f (R_mf E M hJ hg p (by omega) A L i (by omega) (by omega) (hr _ (by omega)) hlow) c2 ?_⟩
      refine br_ne_n (by decide) (by decide) (by decide) ?_
      rw [s_wi, if_neg ‹_›] at hq
      exact hq
theorem R_wi (E : Ev) (M : Mm) (hJ : isM M 84 E) (hg : s_ok E) (p : Nat) (hp : p < 4) (A L m : Nat) (hm : m ≤ L) (hL : L ≤ 40) (hr : ∀ i : Nat, i < m → -9223372036854775808 ≤ M.2 A i ∧ M.2 A i < 9223372036854775808) : en_Ct 4 0 166 [.inr (.inr (1, 6, 84)), .inl ((p : Nat) : Int), .inr (.inr (4, L, A)), .inl ((m : Nat) : Int)] M (fun r M' => r = some (.inl (s_wi E p (M.2 A) m 0)) ∧ M' = M) := by
  refine ct_166 rfl ?_
  refine aw_166_0 ?_
  exact L_wi E M hJ hg p hp A L m hm hL hr m 0 (by omega) (fun k hk => absurd hk (Nat.not_lt_zero k)) ⟨rfl, rfl⟩
theorem M_wi {M : Mm} {E : Ev} (h : isM M 84 E) (hg : s_ok E) {x n : Int} (h0 : 0 ≤ x) (h1 : x < 4) (A L : Nat) (hn0 : 0 ≤ n) (hnL : n ≤ (L : Int)) (hL : L ≤ 40) (hr : ∀ i : Nat, i < n.toNat → -9223372036854775808 ≤ M.2 A i ∧ M.2 A i < 9223372036854775808) : en_Ct 4 0 166 [.inr (.inr (1, 6, 84)), .inl x, .inr (.inr (4, L, A)), .inl n] M (fun r M' => r = some (.inl (s_wi E x.toNat (M.2 A) n.toNat 0)) ∧ M' = M) := by
  have := R_wi E M h hg x.toNat (by omega) A L n.toNat (by omega) hL hr
  rw [show ((x.toNat : Nat) : Int) = x by omega, show ((n.toNat : Nat) : Int) = n by omega] at this
  exact this
def nSh (M : Mm) (E : Ev) (s n x : Int) : Int := if (0 ≤ s ∧ s ≤ 7) ∧ (0 ≤ n ∧ n ≤ 5) ∧ (0 ≤ x ∧ x < E.1 0 2) then (if M.1 85 s.toNat = 2 then -3 else if M.1 85 s.toNat = 0 then -4 else if M.1 87 s.toNat < n then -2 else 0) else -2
theorem nSh_c (M : Mm) (E : Ev) (s n x : Int) : nSh M E s n x = -2 ∨ nSh M E s n x = -3 ∨ nSh M E s n x = -4 ∨ (nSh M E s n x = 0 ∧ (0 ≤ s ∧ s ≤ 7) ∧ (0 ≤ n ∧ n ≤ 5) ∧ (0 ≤ x ∧ x < E.1 0 2) ∧ (M.1 85 s.toNat ≠ 2 ∧ M.1 85 s.toNat ≠ 0) ∧ n ≤ M.1 87 s.toNat) := by
  unfold nSh
  split
  · split
    · exact Or.inr (Or.inl rfl)
    · split
      · exact Or.inr (Or.inr (Or.inl rfl))
      · split
        · exact Or.inl rfl
        · exact Or.inr (Or.inr (Or.inr ⟨rfl, And.left ‹_›, And.left (And.right ‹_›), And.right (And.right ‹_›), ⟨‹_›, ‹_›⟩, by omega⟩))
  · exact Or.inl rfl
theorem nSh_eq {M M1 : Mm} {E F : Ev} (h : cS M) (h84 : ∀ a, 84 ≤ a → M1.1 a = M.1 a) (he : F.1 0 2 = E.1 0 2) (s n x : Int) : nSh M1 F s n x = tTold M E s n x := by
  unfold nSh tTold
  rw [h84 85 (by decide), h84 87 (by decide), he]
  by_cases hs : (0 ≤ s ∧ s ≤ 7) ∧ (0 ≤ n ∧ n ≤ 5) ∧ (0 ≤ x ∧ x < E.1 0 2)
  · rw [if_pos hs, if_pos hs]
    rcases sMk h (k := s.toNat) (by omega) with z | z | z
    · rw [if_neg (by omega), if_pos z.1, if_neg (by omega), if_neg (by omega)]
    · obtain ⟨z1, z2, z3, z4, z5⟩ := z
      rw [if_neg (by omega), if_neg (by omega), z5, if_neg (show ¬ M.1 (68 + 2 * s.toNat) 0 = 10 by omega), if_pos z2]
      by_cases hn : n ≤ M.1 (68 + 2 * s.toNat) 1
      · rw [if_neg (by omega), if_pos hn]
      · rw [if_pos (by omega), if_neg hn]
    · rw [if_pos z.1, if_pos z.2]
  · rw [if_neg hs, if_neg hs]
theorem R_noSheet (E : Ev) (M : Mm) (hJ : isM M 84 E) (hg : s_ok E) (hA : ∀ k : Nat, k < 8 → 0 ≤ M.1 85 k ∧ M.1 85 k ≤ 2) (hB : ∀ k : Nat, k < 8 → M.1 85 k = 1 → (0 ≤ M.1 87 k ∧ M.1 87 k ≤ 40) ∧ (0 ≤ M.1 86 k ∧ M.1 86 k ≤ 4)) (hLr : ∀ k : Nat, k < 8 → M.1 85 k = 1 → ∀ i : Nat, i < 40 → -9223372036854775808 ≤ M.2 (89 + 1 * k) i ∧ M.2 (89 + 1 * k) i < 9223372036854775808) (s n x : Int) (hs : -2147483648 ≤ s ∧ s < 2147483648) (hn : -2147483648 ≤ n ∧ n < 2147483648) (hx : -2147483648 ≤ x ∧ x < 2147483648) : en_Ct 3 0 167 [.inr (.inr (1, 6, 84)), .inl s, .inl n, .inl x] M (fun r M' => r = some (.inl (nSh M E s n x)) ∧ M' = if nSh M E s n x = 0 then M else rfM M (-2 - nSh M E s n x).toNat) := by
  obtain ⟨n0, n1, n2, a0, a1, a2, a3, a4, a5, a6, a7⟩ := hg.1
  have r0 : M.1 84 9 = E.1 0 0 := hJ.1.1
  have r1 : M.1 84 10 = E.1 0 1 := hJ.1.2.1
  have r2 : M.1 84 18 = E.1 0 2 := hJ.1.2.2.1
  have hA1 : (0 ≤ s ∧ s ≤ 7) → (0 ≤ M.1 85 s.toNat ∧ M.1 85 s.toNat ≤ 2) := fun z => hA _ (by omega)
  have hB1 : (0 ≤ s ∧ s ≤ 7) → M.1 85 s.toNat = 1 → (0 ≤ M.1 87 s.toNat ∧ M.1 87 s.toNat ≤ 40) ∧ (0 ≤ M.1 86 s.toNat ∧ M.1 86 s.toNat ≤ 4) := fun z => hB _ (by omega)
  have hl : (0 ≤ s ∧ s ≤ 7) → M.1 85 s.toNat = 1 → ∀ i : Nat, i < 40 → -9223372036854775808 ≤ M.2 (89 + 1 * s.toNat) i ∧ M.2 (89 + 1 * s.toNat) i < 9223372036854775808 := fun z => hLr _ (by omega)
  refine ct_167 rfl ?_
  refine aw_167_0 ?_
  by_cases c1 : 0 ≤ s ∧ s ≤ 7
  · refine ⟨1, 0, by first | decide | omega, by first | decide | omega, en_Ct_t (R_in (en_wr s) 0 7 s 0 7 (wl_wr ⟨by omega, by omega⟩) (wl_of ⟨by omega, by omega⟩) (wl_of ⟨by omega, by omega⟩) _) c1 ?_⟩
    refine br_eq_n (by decide) (by decide) (by decide) ?_
    by_cases c3 : 0 ≤ n ∧ n ≤ 5
    · refine ⟨1, 0, by first | decide | omega, by first | decide | omega, en_Ct_t (R_in (en_wr n) 0 5 n 0 5 (wl_wr ⟨by omega, by omega⟩) (wl_of ⟨by omega, by omega⟩) (wl_of ⟨by omega, by omega⟩) _) c3 ?_⟩
      refine br_eq_n (by decide) (by decide) (by decide) ?_
      by_cases c5 : 0 ≤ x ∧ x < E.1 0 2
      · refine ⟨2, 0, by first | decide | omega, by first | decide | omega, en_Ct_t (M_isPerson (M := M) (E := E) hJ hg (x := x) (by omega)) c5 ?_⟩
        refine br_ne_y (by decide) (by decide) (by decide) ?_
        refine aw_167_39 ?_
        rcases nRow_c M s with ⟨tv, t1⟩ | ⟨tv, t1, t2⟩ | ⟨tv, t1, t2⟩ | ⟨tv, t1, t2, t3⟩
        · refine ⟨2, 0, by first | decide | omega, by first | decide | omega, en_Ct_eq (R_noRowv (by omega) hA tv) ?_⟩
          refine br_eq_n (by decide) (by decide) (by decide) ?_
          first
            | exfalso
              omega
            | have hv : nSh M E s n x = (-2) := by
                unfold nSh
                repeat first | rw [if_pos (by omega)] | rw [if_neg (by omega)]
              refine ⟨congrArg (fun z => some (Sum.inl z)) hv.symm, ?_⟩
              first | (rw [hv]; done) | (rw [hv]; rfl) | (rw [hv, if_pos rfl]) | (rw [hv, if_neg (by decide)]) | (rw [hv, if_neg (by decide)]; rfl)
        · refine ⟨2, 0, by first | decide | omega, by first | decide | omega, en_Ct_eq (R_noRowv (by omega) hA tv) ?_⟩
          refine br_eq_n (by decide) (by decide) (by decide) ?_
          first
            | exfalso
              omega
            | have hv : nSh M E s n x = (-3) := by
                unfold nSh
                repeat first | rw [if_pos (by omega)] | rw [if_neg (by omega)]
              refine ⟨congrArg (fun z => some (Sum.inl z)) hv.symm, ?_⟩
              first | (rw [hv]; done) | (rw [hv]; rfl) | (rw [hv, if_pos rfl]) | (rw [hv, if_neg (by decide)]) | (rw [hv, if_neg (by decide)]; rfl)
        · refine ⟨2, 0, by first | decide | omega, by first | decide | omega, en_Ct_eq (R_noRowv (by omega) hA tv) ?_⟩
          refine br_eq_n (by decide) (by decide) (by decide) ?_
          first
            | exfalso
              omega
            | have hv : nSh M E s n x = (-4) := by
                unfold nSh
                repeat first | rw [if_pos (by omega)] | rw [if_neg (by omega)]
              refine ⟨congrArg (fun z => some (Sum.inl z)) hv.symm, ?_⟩
              first | (rw [hv]; done) | (rw [hv]; rfl) | (rw [hv, if_pos rfl]) | (rw [hv, if_neg (by decide)]) | (rw [hv, if_neg (by decide)]; rfl)
        · refine ⟨2, 0, by first | decide | omega, by first | decide | omega, en_Ct_eq (R_noRowv (by omega) hA tv) ?_⟩
          refine br_eq_y (by decide) (by decide) (by decide) ?_
          refine aw_167_54 ?_
          refine ⟨s.toNat, it_nn (x := s) (by omega), (show s.toNat < 8 by omega), ?_⟩
          refine br_ge (a := M.1 87 s.toNat) (b := n) (by omega) (by omega) (fun q11 => ?_) (fun q11 => ?_)
          · refine aw_167_73 ?_
            refine aw_167_74 ?_
            first
              | exfalso
                omega
              | have hv : nSh M E s n x = 0 := by
                  unfold nSh
                  repeat first | rw [if_pos (by omega)] | rw [if_neg (by omega)]
                refine ⟨congrArg (fun z => some (Sum.inl z)) hv.symm, ?_⟩
                first | (rw [hv]; done) | (rw [hv]; rfl) | (rw [hv, if_pos rfl]) | (rw [hv, if_neg (by decide)]) | (rw [hv, if_neg (by decide)]; rfl)
          · refine ⟨1, 0, by first | decide | omega, by first | decide | omega, en_Ct_eq (R_refM (-2) (by omega) M) ?_⟩
            refine aw_167_74 ?_
            first
              | exfalso
                omega
              | have hv : nSh M E s n x = (-2) := by
                  unfold nSh
                  repeat first | rw [if_pos (by omega)] | rw [if_neg (by omega)]
                refine ⟨congrArg (fun z => some (Sum.inl z)) hv.symm, ?_⟩
                first | (rw [hv]; done) | (rw [hv]; rfl) | (rw [hv, if_pos rfl]) | (rw [hv, if_neg (by decide)]) | (rw [hv, if_neg (by decide)]; rfl)
      · refine ⟨2, 0, by first | decide | omega, by first | decide | omega, en_Ct_f (M_isPerson (M := M) (E := E) hJ hg (x := x) (by omega)) c5 ?_⟩
        refine br_ne_n (by decide) (by decide) (by decide) ?_
        refine aw_167_32 ?_
        refine ⟨1, 0, by first | decide | omega, by first | decide | omega, en_Ct_eq (R_refM (-2) (by omega) M) ?_⟩
        first
          | exfalso
            omega
          | have hv : nSh M E s n x = (-2) := by
              unfold nSh
              repeat first | rw [if_pos (by omega)] | rw [if_neg (by omega)]
            refine ⟨congrArg (fun z => some (Sum.inl z)) hv.symm, ?_⟩
            first | (rw [hv]; done) | (rw [hv]; rfl) | (rw [hv, if_pos rfl]) | (rw [hv, if_neg (by decide)]) | (rw [hv, if_neg (by decide)]; rfl)
    · refine ⟨1, 0, by first | decide | omega, by first | decide | omega, en_Ct_f (R_in (en_wr n) 0 5 n 0 5 (wl_wr ⟨by omega, by omega⟩) (wl_of ⟨by omega, by omega⟩) (wl_of ⟨by omega, by omega⟩) _) c3 ?_⟩
      refine br_eq_y (by decide) (by decide) (by decide) ?_
      refine aw_167_32 ?_
      refine ⟨1, 0, by first | decide | omega, by first | decide | omega, en_Ct_eq (R_refM (-2) (by omega) M) ?_⟩
      first
        | exfalso
          omega
        | have hv : nSh M E s n x = (-2) := by
            unfold nSh
            repeat first | rw [if_pos (by omega)] | rw [if_neg (by omega)]
          refine ⟨congrArg (fun z => some (Sum.inl z)) hv.symm, ?_⟩
          first | (rw [hv]; done) | (rw [hv]; rfl) | (rw [hv, if_pos rfl]) | (rw [hv, if_neg (by decide)]) | (rw [hv, if_neg (by decide)]; rfl)
  · refine ⟨1, 0, by first | decide | omega, by first | decide | omega, en_Ct_f (R_in (en_wr s) 0 7 s 0 7 (wl_wr ⟨by omega, by omega⟩) (wl_of ⟨by omega, by omega⟩) (wl_of ⟨by omega, by omega⟩) _) c1 ?_⟩
    refine br_eq_y (by decide) (by decide) (by decide) ?_
    refine aw_167_32 ?_
    refine ⟨1, 0, by first | decide | omega, by first | decide | omega, en_Ct_eq (R_refM (-2) (by omega) M) ?_⟩
    first
      | exfalso
        omega
      | have hv : nSh M E s n x = (-2) := by
          unfold nSh
          repeat first | rw [if_pos (by omega)] | rw [if_neg (by omega)]
        refine ⟨congrArg (fun z => some (Sum.inl z)) hv.symm, ?_⟩
        first | (rw [hv]; done) | (rw [hv]; rfl) | (rw [hv, if_pos rfl]) | (rw [hv, if_neg (by decide)]) | (rw [hv, if_neg (by decide)]; rfl)
theorem R_noSheetv {E : Ev} {M : Mm} (hJ : isM M 84 E) (hg : s_ok E) (hA : ∀ k : Nat, k < 8 → 0 ≤ M.1 85 k ∧ M.1 85 k ≤ 2) (hB : ∀ k : Nat, k < 8 → M.1 85 k = 1 → (0 ≤ M.1 87 k ∧ M.1 87 k ≤ 40) ∧ (0 ≤ M.1 86 k ∧ M.1 86 k ≤ 4)) (hLr : ∀ k : Nat, k < 8 → M.1 85 k = 1 → ∀ i : Nat, i < 40 → -9223372036854775808 ≤ M.2 (89 + 1 * k) i ∧ M.2 (89 + 1 * k) i < 9223372036854775808) {s n x v : Int} (hs : -2147483648 ≤ s ∧ s < 2147483648) (hn : -2147483648 ≤ n ∧ n < 2147483648) (hx : -2147483648 ≤ x ∧ x < 2147483648) (h : nSh M E s n x = v) : en_Ct 3 0 167 [.inr (.inr (1, 6, 84)), .inl s, .inl n, .inl x] M (fun r M' => r = some (.inl v) ∧ M' = if v = 0 then M else rfM M (-2 - v).toNat) := h ▸ R_noSheet E M hJ hg hA hB hLr s n x hs hn hx
def a_judgeM (M : Mm) (E : Ev) (s n x : Int) : Nat × Int := if nSh M E s n x = 0 then (0, s_wi E x.toNat (M.2 (89 + 1 * s.toNat)) n.toNat 0) else ((-1 - nSh M E s n x).toNat, nSh M E s n x)
def a_takesM (M : Mm) (E : Ev) (s n x : Int) : Nat × Int := if nSh M E s n x = 0 then (if s_wi E x.toNat (M.2 (89 + 1 * s.toNat)) n.toNat 0 = -1 then (0, s_tk E (M.2 (89 + 1 * s.toNat)) n.toNat) else (4, -5)) else ((-1 - nSh M E s n x).toNat, nSh M E s n x)
def a_sheetM (M : Mm) (E : Ev) (s n x : Int) : Nat × Int := if nSh M E s n x = 0 then (if s_wi E x.toNat (M.2 (89 + 1 * s.toNat)) n.toNat 0 = -1 then (0, n) else (4, -5)) else ((-1 - nSh M E s n x).toNat, nSh M E s n x)
theorem PM_judge (E : Ev) (M : Mm) (hJ : isM M 84 E) (hg : s_ok E) (hA : ∀ k : Nat, k < 8 → 0 ≤ M.1 85 k ∧ M.1 85 k ≤ 2) (hB : ∀ k : Nat, k < 8 → M.1 85 k = 1 → (0 ≤ M.1 87 k ∧ M.1 87 k ≤ 40) ∧ (0 ≤ M.1 86 k ∧ M.1 86 k ≤ 4)) (hLr : ∀ k : Nat, k < 8 → M.1 85 k = 1 → ∀ i : Nat, i < 40 → -9223372036854775808 ≤ M.2 (89 + 1 * k) i ∧ M.2 (89 + 1 * k) i < 9223372036854775808) (s n x : Int) (hs : -2147483648 ≤ s ∧ s < 2147483648) (hn : -2147483648 ≤ n ∧ n < 2147483648) (hx : -2147483648 ≤ x ∧ x < 2147483648) : en_Ct 9 0 169 [.inr (.inr (1, 6, 84)), .inl s, .inl n, .inl x] M (fun r M' => r = some (.inl (a_judgeM M E s n x).2) ∧ sM (aM M (a_judgeM M E s n x).1) M') := by
  obtain ⟨n0, n1, n2, a0, a1, a2, a3, a4, a5, a6, a7⟩ := hg.1
  have r0 : M.1 84 9 = E.1 0 0 := hJ.1.1
  have r1 : M.1 84 10 = E.1 0 1 := hJ.1.2.1
  have r2 : M.1 84 18 = E.1 0 2 := hJ.1.2.2.1
  have hA1 : (0 ≤ s ∧ s ≤ 7) → (0 ≤ M.1 85 s.toNat ∧ M.1 85 s.toNat ≤ 2) := fun z => hA _ (by omega)
  have hB1 : (0 ≤ s ∧ s ≤ 7) → M.1 85 s.toNat = 1 → (0 ≤ M.1 87 s.toNat ∧ M.1 87 s.toNat ≤ 40) ∧ (0 ≤ M.1 86 s.toNat ∧ M.1 86 s.toNat ≤ 4) := fun z => hB _ (by omega)
  have hl : (0 ≤ s ∧ s ≤ 7) → M.1 85 s.toNat = 1 → ∀ i : Nat, i < 40 → -9223372036854775808 ≤ M.2 (89 + 1 * s.toNat) i ∧ M.2 (89 + 1 * s.toNat) i < 9223372036854775808 := fun z => hLr _ (by omega)
  refine ct_169 rfl ?_
  refine aw_169_0 ?_
  rcases nSh_c M E s n x with tv | tv | tv | ⟨tv, t1, t2, t3, t4, t5⟩
  · refine ⟨3, 0, by first | decide | omega, by first | decide | omega, en_Ct_eq (R_noSheetv hJ hg hA hB hLr hs hn hx tv) ?_⟩
    refine br_eq_n (by decide) (by decide) (by decide) ?_
    refine aw_169_31 ?_
    have ha : a_judgeM M E s n x = (1, (-2)) := by
      unfold a_judgeM
      rw [tv]
      rfl
    rw [ha]
    exact ⟨rfl, sM_rfl⟩
  · refine ⟨3, 0, by first | decide | omega, by first | decide | omega, en_Ct_eq (R_noSheetv hJ hg hA hB hLr hs hn hx tv) ?_⟩
    refine br_eq_n (by decide) (by decide) (by decide) ?_
    refine aw_169_31 ?_
    have ha : a_judgeM M E s n x = (2, (-3)) := by
      unfold a_judgeM
      rw [tv]
      rfl
    rw [ha]
    exact ⟨rfl, sM_rfl⟩
  · refine ⟨3, 0, by first | decide | omega, by first | decide | omega, en_Ct_eq (R_noSheetv hJ hg hA hB hLr hs hn hx tv) ?_⟩
    refine br_eq_n (by decide) (by decide) (by decide) ?_
    refine aw_169_31 ?_
    have ha : a_judgeM M E s n x = (3, (-4)) := by
      unfold a_judgeM
      rw [tv]
      rfl
    rw [ha]
    exact ⟨rfl, sM_rfl⟩
  · refine ⟨3, 0, by first | decide | omega, by first | decide | omega, en_Ct_eq (R_noSheetv hJ hg hA hB hLr hs hn hx tv) ?_⟩
    refine br_eq_y (by decide) (by decide) (by decide) ?_
    refine aw_169_19 ?_
    refine ⟨s.toNat, it_nn (x := s) (by omega), (show s.toNat < 8 by omega), ?_⟩
    refine ⟨4, 0, by first | decide | omega, by first | decide | omega, en_Ct_eq (M_wi (M := M) (E := E) hJ hg (x := x) (n := n) (by omega) (by omega) (89 + 1 * s.toNat) 40 (by omega) (by omega) (by omega) (fun i hi => hl (by omega) (by omega) i (by omega))) ?_⟩
    have wb := wi_b (E := E) (p := x.toNat) (f := M.2 (89 + 1 * s.toNat)) n.toNat 0
    refine aw_169_31 ?_
    have ha : a_judgeM M E s n x = (0, s_wi E x.toNat (M.2 (89 + 1 * s.toNat)) n.toNat 0) := by
      unfold a_judgeM
      rw [tv]
      rfl
    rw [ha]
    exact ⟨rfl, sM_rfl⟩
theorem L_takesM {post : Option AV → Mm → Prop} (E : Ev) (M : Mm) (hJ : isM M 84 E) (hg : s_ok E) (s m : Nat) (hs8 : s < 8) (hm : m ≤ 40) (x : Int) (hw : ∀ k : Nat, k < m → 0 ≤ M.2 (89 + 1 * s) k ∧ M.2 (89 + 1 * s) k < E.1 0 1) (hq : post (some (.inl (s_tk E (M.2 (89 + 1 * s)) m))) M) : ∀ (n : Nat) (i : Nat), (i + n = m) → en_AW 9 0 170 post 46 [some (.inr (.inr (1, 6, 84))), some (.inl ((s : Nat) : Int)), some (.inl ((m : Nat) : Int)), some (.inl x), some (.inl 0), some (.inl (s_tk E (M.2 (89 + 1 * s)) i)), some (.inl ((i : Nat) : Int))] [] M 0 := by
  intro n
  induction n with
  | zero =>
    intro i hi
    refine aw_170_46 ?_
    refine br_ge_y (a := ((i : Nat) : Int)) (b := ((m : Nat) : Int)) (by omega) (by omega) (by omega) ?_
    refine aw_170_77 ?_
    rw [show m = i by omega] at hq
    exact hq
  | succ n ih =>
    intro i hi
    obtain ⟨n0, n1, n2, a0, a1, a2, a3, a4, a5, a6, a7⟩ := hg.1
    have r0 : M.1 84 9 = E.1 0 0 := hJ.1.1
    have r1 : M.1 84 10 = E.1 0 1 := hJ.1.2.1
    have r2 : M.1 84 18 = E.1 0 2 := hJ.1.2.2.1
    have hwi := hw i (by omega)
    refine aw_170_46 ?_
    refine br_ge_n (a := ((i : Nat) : Int)) (b := ((m : Nat) : Int)) (by omega) (by omega) (by omega) ?_
    refine ⟨s, rfl, (show s < 8 by omega), ?_⟩
    refine ⟨i, rfl, (show i < 40 by omega), ?_⟩
    refine ⟨1, 0, by first | decide | omega, by first | decide | omega, en_Ct_eq (V_cost (b := 84) (E := E) (M := M) hJ hg (x := (M.2 (89 + 1 * s) i)) (by omega) (by omega)) ?_⟩
    have cb2 := s_cost_b (hg.2.1 ((M.2 (89 + 1 * s) i).toNat) (by omega))
    exact ih (i + 1) (by omega)
theorem PM_takes (E : Ev) (M : Mm) (hJ : isM M 84 E) (hg : s_ok E) (hA : ∀ k : Nat, k < 8 → 0 ≤ M.1 85 k ∧ M.1 85 k ≤ 2) (hB : ∀ k : Nat, k < 8 → M.1 85 k = 1 → (0 ≤ M.1 87 k ∧ M.1 87 k ≤ 40) ∧ (0 ≤ M.1 86 k ∧ M.1 86 k ≤ 4)) (hLr : ∀ k : Nat, k < 8 → M.1 85 k = 1 → ∀ i : Nat, i < 40 → -9223372036854775808 ≤ M.2 (89 + 1 * k) i ∧ M.2 (89 + 1 * k) i < 9223372036854775808) (s n x : Int) (hs : -2147483648 ≤ s ∧ s < 2147483648) (hn : -2147483648 ≤ n ∧ n < 2147483648) (hx : -2147483648 ≤ x ∧ x < 2147483648) : en_Ct 9 0 170 [.inr (.inr (1, 6, 84)), .inl s, .inl n, .inl x] M (fun r M' => r = some (.inl (a_takesM M E s n x).2) ∧ sM (aM M (a_takesM M E s n x).1) M') := by
  obtain ⟨n0, n1, n2, a0, a1, a2, a3, a4, a5, a6, a7⟩ := hg.1
  have r0 : M.1 84 9 = E.1 0 0 := hJ.1.1
  have r1 : M.1 84 10 = E.1 0 1 := hJ.1.2.1
  have r2 : M.1 84 18 = E.1 0 2 := hJ.1.2.2.1
  have hA1 : (0 ≤ s ∧ s ≤ 7) → (0 ≤ M.1 85 s.toNat ∧ M.1 85 s.toNat ≤ 2) := fun z => hA _ (by omega)
  have hB1 : (0 ≤ s ∧ s ≤ 7) → M.1 85 s.toNat = 1 → (0 ≤ M.1 87 s.toNat ∧ M.1 87 s.toNat ≤ 40) ∧ (0 ≤ M.1 86 s.toNat ∧ M.1 86 s.toNat ≤ 4) := fun z => hB _ (by omega)
  have hl : (0 ≤ s ∧ s ≤ 7) → M.1 85 s.toNat = 1 → ∀ i : Nat, i < 40 → -9223372036854775808 ≤ M.2 (89 + 1 * s.toNat) i ∧ M.2 (89 + 1 * s.toNat) i < 9223372036854775808 := fun z => hLr _ (by omega)
  refine ct_170 rfl ?_
  refine aw_170_0 ?_
  rcases nSh_c M E s n x with tv | tv | tv | ⟨tv, t1, t2, t3, t4, t5⟩
  · refine ⟨3, 0, by first | decide | omega, by first | decide | omega, en_Ct_eq (R_noSheetv hJ hg hA hB hLr hs hn hx tv) ?_⟩
    refine br_eq_n (by decide) (by decide) (by decide) ?_
    have ha : a_takesM M E s n x = (1, (-2)) := by
      unfold a_takesM
      rw [tv]
      rfl
    rw [ha]
    exact ⟨rfl, sM_rfl⟩
  · refine ⟨3, 0, by first | decide | omega, by first | decide | omega, en_Ct_eq (R_noSheetv hJ hg hA hB hLr hs hn hx tv) ?_⟩
    refine br_eq_n (by decide) (by decide) (by decide) ?_
    have ha : a_takesM M E s n x = (2, (-3)) := by
      unfold a_takesM
      rw [tv]
      rfl
    rw [ha]
    exact ⟨rfl, sM_rfl⟩
  · refine ⟨3, 0, by first | decide | omega, by first | decide | omega, en_Ct_eq (R_noSheetv hJ hg hA hB hLr hs hn hx tv) ?_⟩
    refine br_eq_n (by decide) (by decide) (by decide) ?_
    have ha : a_takesM M E s n x = (3, (-4)) := by
      unfold a_takesM
      rw [tv]
      rfl
    rw [ha]
    exact ⟨rfl, sM_rfl⟩
  · refine ⟨3, 0, by first | decide | omega, by first | decide | omega, en_Ct_eq (R_noSheetv hJ hg hA hB hLr hs hn hx tv) ?_⟩
    refine br_eq_y (by decide) (by decide) (by decide) ?_
    refine aw_170_17 ?_
    refine ⟨s.toNat, it_nn (x := s) (by omega), (show s.toNat < 8 by omega), ?_⟩
    refine ⟨4, 0, by first | decide | omega, by first | decide | omega, en_Ct_eq (M_wi (M := M) (E := E) hJ hg (x := x) (n := n) (by omega) (by omega) (89 + 1 * s.toNat) 40 (by omega) (by omega) (by omega) (fun i hi => hl (by omega) (by omega) i (by omega))) ?_⟩
    have wb := wi_b (E := E) (p := x.toNat) (f := M.2 (89 + 1 * s.toNat)) n.toNat 0
    refine br_eq (a := s_wi E x.toNat (M.2 (89 + 1 * s.toNat)) n.toNat 0) (b := (-1)) (by omega) (by omega) (fun q5 => ?_) (fun q5 => ?_)
    · refine aw_170_40 ?_
      obtain ⟨k, rfl⟩ := Int.eq_ofNat_of_zero_le (show 0 ≤ s by omega)
      obtain ⟨m, rfl⟩ := Int.eq_ofNat_of_zero_le (show 0 ≤ n by omega)
      have t6 : s_wi E x.toNat (M.2 (89 + 1 * k)) m 0 = -1 := by
        have z : s_wi E x.toNat (M.2 (89 + 1 * ((k : Nat) : Int).toNat)) ((m : Nat) : Int).toNat 0 = -1 := by omega
        exact z
      have hok := wi_ok _ _ t6
      refine L_takesM E M hJ hg k m (by omega) (by omega) x (fun j hj => (hok j (by omega) (by omega)).1) ?_ m 0 (by omega)
      have ha : a_takesM M E k m x = (0, s_tk E (M.2 (89 + 1 * k)) m) := by
        unfold a_takesM
        rw [tv, if_pos rfl]
        exact if_pos t6
      rw [ha]
      exact ⟨rfl, sM_rfl⟩
    · refine ⟨1, 0, by first | decide | omega, by first | decide | omega, en_Ct_eq (R_refM (-5) (by omega) M) ?_⟩
      have ha : a_takesM M E s n x = (4, (-5)) := by
        unfold a_takesM
        rw [tv]
        rw [if_pos rfl, if_neg (by omega)]
      rw [ha]
      exact ⟨rfl, sM_rfl⟩
theorem L_sheetM {post : Option AV → Mm → Prop} (M : Mm) (s m p : Nat) (hs8 : s < 8) (hm : m ≤ 5) (hp : p < 4) (hx : post (some (.inl ((m : Nat) : Int))) (en_wI (pr M (84 + 24 + 1 + 1 * p) (M.2 (89 + 1 * s)) m) 113 p ((m : Nat) : Int))) : ∀ (n : Nat) (i : Nat), (i + n = m) → en_AW 9 0 168 post 43 [some (.inr (.inr (1, 6, 84))), some (.inl ((s : Nat) : Int)), some (.inl ((m : Nat) : Int)), some (.inl ((p : Nat) : Int)), some (.inl 0), some (.inl ((i : Nat) : Int))] [] (pr M (84 + 24 + 1 + 1 * p) (M.2 (89 + 1 * s)) i) 0 := by
  intro n
  induction n with
  | zero =>
    intro i hi
    refine aw_168_43 ?_
    refine br_ge_y (a := ((i : Nat) : Int)) (b := ((m : Nat) : Int)) (by omega) (by omega) (by omega) ?_
    refine aw_168_74 ?_
    refine ⟨p, rfl, (show p < 4 by omega), ?_⟩
    rw [show m = i by omega] at hx ⊢
    exact hx
  | succ n ih =>
    intro i hi
    refine aw_168_43 ?_
    refine br_ge_n (a := ((i : Nat) : Int)) (b := ((m : Nat) : Int)) (by omega) (by omega) (by omega) ?_
    refine ⟨p, rfl, (show p < 4 by omega), ?_⟩
    refine ⟨s, rfl, (show s < 8 by omega), ?_⟩
    refine ⟨i, rfl, (show i < 40 by omega), ?_⟩
    refine ⟨i, rfl, (show i < 5 by omega), ?_⟩
    refine en_AW_M (show en_wI (pr M (84 + 24 + 1 + 1 * p) (M.2 (89 + 1 * s)) i) (109 + 1 * p) i ((pr M (84 + 24 + 1 + 1 * p) (M.2 (89 + 1 * s)) i).2 (89 + 1 * s) i) = pr M (84 + 24 + 1 + 1 * p) (M.2 (89 + 1 * s)) (i + 1) from pr_step rfl) ?_
    exact ih (i + 1) (by omega)
theorem PM_sheet (E : Ev) (M : Mm) (hJ : isM M 84 E) (hg : s_ok E) (hA : ∀ k : Nat, k < 8 → 0 ≤ M.1 85 k ∧ M.1 85 k ≤ 2) (hB : ∀ k : Nat, k < 8 → M.1 85 k = 1 → (0 ≤ M.1 87 k ∧ M.1 87 k ≤ 40) ∧ (0 ≤ M.1 86 k ∧ M.1 86 k ≤ 4)) (hLr : ∀ k : Nat, k < 8 → M.1 85 k = 1 → ∀ i : Nat, i < 40 → -9223372036854775808 ≤ M.2 (89 + 1 * k) i ∧ M.2 (89 + 1 * k) i < 9223372036854775808) (s n x : Int) (hs : -2147483648 ≤ s ∧ s < 2147483648) (hn : -2147483648 ≤ n ∧ n < 2147483648) (hx : -2147483648 ≤ x ∧ x < 2147483648) : en_Ct 9 0 168 [.inr (.inr (1, 6, 84)), .inl s, .inl n, .inl x] M (fun r M' => r = some (.inl (a_sheetM M E s n x).2) ∧ (((a_sheetM M E s n x).1 ≠ 0 ∧ sM (aM M (a_sheetM M E s n x).1) M') ∨ ((a_sheetM M E s n x).1 = 0 ∧ mE M M' ∧ isM M' 84 (u_sh E (M.2 (89 + 1 * s.toNat)) n.toNat x.toNat)))) := by
  obtain ⟨n0, n1, n2, a0, a1, a2, a3, a4, a5, a6, a7⟩ := hg.1
  have r0 : M.1 84 9 = E.1 0 0 := hJ.1.1
  have r1 : M.1 84 10 = E.1 0 1 := hJ.1.2.1
  have r2 : M.1 84 18 = E.1 0 2 := hJ.1.2.2.1
  have hA1 : (0 ≤ s ∧ s ≤ 7) → (0 ≤ M.1 85 s.toNat ∧ M.1 85 s.toNat ≤ 2) := fun z => hA _ (by omega)
  have hB1 : (0 ≤ s ∧ s ≤ 7) → M.1 85 s.toNat = 1 → (0 ≤ M.1 87 s.toNat ∧ M.1 87 s.toNat ≤ 40) ∧ (0 ≤ M.1 86 s.toNat ∧ M.1 86 s.toNat ≤ 4) := fun z => hB _ (by omega)
  have hl : (0 ≤ s ∧ s ≤ 7) → M.1 85 s.toNat = 1 → ∀ i : Nat, i < 40 → -9223372036854775808 ≤ M.2 (89 + 1 * s.toNat) i ∧ M.2 (89 + 1 * s.toNat) i < 9223372036854775808 := fun z => hLr _ (by omega)
  refine ct_168 rfl ?_
  refine aw_168_0 ?_
  rcases nSh_c M E s n x with tv | tv | tv | ⟨tv, t1, t2, t3, t4, t5⟩
  · refine ⟨3, 0, by first | decide | omega, by first | decide | omega, en_Ct_eq (R_noSheetv hJ hg hA hB hLr hs hn hx tv) ?_⟩
    refine br_eq_n (by decide) (by decide) (by decide) ?_
    have ha : a_sheetM M E s n x = (1, (-2)) := by
      unfold a_sheetM
      rw [tv]
      rfl
    rw [ha]
    exact ⟨rfl, Or.inl ⟨by decide, sM_rfl⟩⟩
  · refine ⟨3, 0, by first | decide | omega, by first | decide | omega, en_Ct_eq (R_noSheetv hJ hg hA hB hLr hs hn hx tv) ?_⟩
    refine br_eq_n (by decide) (by decide) (by decide) ?_
    have ha : a_sheetM M E s n x = (2, (-3)) := by
      unfold a_sheetM
      rw [tv]
      rfl
    rw [ha]
    exact ⟨rfl, Or.inl ⟨by decide, sM_rfl⟩⟩
  · refine ⟨3, 0, by first | decide | omega, by first | decide | omega, en_Ct_eq (R_noSheetv hJ hg hA hB hLr hs hn hx tv) ?_⟩
    refine br_eq_n (by decide) (by decide) (by decide) ?_
    have ha : a_sheetM M E s n x = (3, (-4)) := by
      unfold a_sheetM
      rw [tv]
      rfl
    rw [ha]
    exact ⟨rfl, Or.inl ⟨by decide, sM_rfl⟩⟩
  · refine ⟨3, 0, by first | decide | omega, by first | decide | omega, en_Ct_eq (R_noSheetv hJ hg hA hB hLr hs hn hx tv) ?_⟩
    refine br_eq_y (by decide) (by decide) (by decide) ?_
    refine aw_168_17 ?_
    refine ⟨s.toNat, it_nn (x := s) (by omega), (show s.toNat < 8 by omega), ?_⟩
    refine ⟨4, 0, by first | decide | omega, by first | decide | omega, en_Ct_eq (M_wi (M := M) (E := E) hJ hg (x := x) (n := n) (by omega) (by omega) (89 + 1 * s.toNat) 40 (by omega) (by omega) (by omega) (fun i hi => hl (by omega) (by omega) i (by omega))) ?_⟩
    have wb := wi_b (E := E) (p := x.toNat) (f := M.2 (89 + 1 * s.toNat)) n.toNat 0
    refine br_eq (a := s_wi E x.toNat (M.2 (89 + 1 * s.toNat)) n.toNat 0) (b := (-1)) (by omega) (by omega) (fun q5 => ?_) (fun q5 => ?_)
    · refine aw_168_40 ?_
      obtain ⟨k, rfl⟩ := Int.eq_ofNat_of_zero_le (show 0 ≤ s by omega)
      obtain ⟨m, rfl⟩ := Int.eq_ofNat_of_zero_le (show 0 ≤ n by omega)
      obtain ⟨q, rfl⟩ := Int.eq_ofNat_of_zero_le (show 0 ≤ x by omega)
      have t6 : s_wi E q (M.2 (89 + 1 * k)) m 0 = -1 := by
        have z : s_wi E ((q : Nat) : Int).toNat (M.2 (89 + 1 * ((k : Nat) : Int).toNat)) ((m : Nat) : Int).toNat 0 = -1 := by omega
        exact z
      have ha : a_sheetM M E k m q = (0, (m : Int)) := by
        unfold a_sheetM
        rw [tv, if_pos rfl]
        exact if_pos t6
      refine en_AW_M (pr_0 (M := M) (a := 84 + 24 + 1 + 1 * q) (f := M.2 (89 + 1 * k))).symm ?_
      refine L_sheetM M k m q (by omega) (by omega) (by omega) ?_ m 0 (by omega)
      rw [ha]
      refine ⟨rfl, Or.inr ⟨rfl, ⟨fun a ha => ?_, fun j hj => ?_, fun _ _ => rfl⟩, isM_sh hJ (by omega)⟩⟩
      · rw [wI_ne (by omega), pr_ne (by omega)]
      · rw [wI_ne (by omega), pr_ne (by omega)]
    · refine ⟨1, 0, by first | decide | omega, by first | decide | omega, en_Ct_eq (R_refM (-5) (by omega) M) ?_⟩
      have ha : a_sheetM M E s n x = (4, (-5)) := by
        unfold a_sheetM
        rw [tv]
        rw [if_pos rfl, if_neg (by omega)]
      rw [ha]
      exact ⟨rfl, Or.inl ⟨by decide, sM_rfl⟩⟩
theorem mf_c {E F : Ev} (h : evs E F) (hg : s_ok E) {p k : Nat} {f g : Nat → Int} (hf : ∀ i, i ≤ k → f i = g i) (hlow : ∀ i, i < k → 0 ≤ f i ∧ f i < E.1 0 1) : s_mf E p f k ↔ s_mf F p g k := by
  have e1 := h.1 1 (by decide)
  have w24 := hg.1.2.1
  unfold s_mf
  rw [hf k (Nat.le_refl _), ← e1]
  constructor
  · rintro ⟨a, b, c⟩
    have h24 : (g k).toNat < 24 := by omega
    refine ⟨a, by rw [← ev_can h p h24]; exact b, fun i hi => ?_⟩
    have hl := hlow i hi
    rw [← ev_r h 4 (by decide) (by decide) h24, ← ev_r h 4 (by decide) (by decide) (by rw [← hf i (by omega)]; omega), ← hf i (by omega)]
    exact c i hi
  · rintro ⟨a, b, c⟩
    have h24 : (g k).toNat < 24 := by omega
    refine ⟨a, by rw [ev_can h p h24]; exact b, fun i hi => ?_⟩
    have hl := hlow i hi
    have := c i hi
    rw [← ev_r h 4 (by decide) (by decide) h24, ← ev_r h 4 (by decide) (by decide) (by rw [← hf i (by omega)]; omega), ← hf i (by omega)] at this
    exact this
theorem wi_c {E F : Ev} (h : evs E F) (hg : s_ok E) {p : Nat} {f g : Nat → Int} : ∀ n i, (∀ k, k < i + n → f k = g k) → (∀ k, k < i → 0 ≤ f k ∧ f k < E.1 0 1) → s_wi E p f n i = s_wi F p g n i
  | 0, _, _, _ => rfl
  | n + 1, i, hf, hlow => by
    have e := mf_c (k := i) (p := p) h hg (fun k hk => hf k (by omega)) hlow
    unfold s_wi
    by_cases hm : s_mf E p f i
    · rw [if_pos hm, if_pos (e.mp hm)]
      exact wi_c h hg n (i + 1) (fun k hk => hf k (by omega)) (fun k hk => by
        by_cases hki : k = i
        · subst hki; exact hm.1
        · exact hlow k (by omega))
    · rw [if_neg hm, if_neg (fun z => hm (e.mpr z))]
theorem tk_c {E F : Ev} (h : evs E F) (hg : s_ok E) {f g : Nat → Int} : ∀ n, (∀ k, k < n → f k = g k) → (∀ k, k < n → 0 ≤ f k ∧ f k < E.1 0 1) → s_tk E f n = s_tk F g n
  | 0, _, _ => rfl
  | n + 1, hf, hl => by
    have w24 := hg.1.2.1
    have := hl n (by omega)
    rw [s_tk, s_tk, tk_c h hg n (fun k hk => hf k (by omega)) (fun k hk => hl k (by omega)), ← hf n (by omega), ev_cost h (by omega)]
/-- what the reference's shelves say, behind the class's call -/
theorem ab_M {M M1 : Mm} (hS : cS M) (h84 : ∀ a, 84 ≤ a → M1.1 a = M.1 a) (h64 : ∀ a, a ≠ 64 → M1.2 a = M.2 a) : (∀ k : Nat, k < 8 → 0 ≤ M1.1 85 k ∧ M1.1 85 k ≤ 2) ∧ (∀ k : Nat, k < 8 → M1.1 85 k = 1 → (0 ≤ M1.1 87 k ∧ M1.1 87 k ≤ 40) ∧ (0 ≤ M1.1 86 k ∧ M1.1 86 k ≤ 4)) ∧ (∀ k : Nat, k < 8 → M1.1 85 k = 1 → ∀ i : Nat, i < 40 → -9223372036854775808 ≤ M1.2 (89 + 1 * k) i ∧ M1.2 (89 + 1 * k) i < 9223372036854775808) := by
  refine ⟨fun k hk => ?_, fun k hk h1 => ?_, fun k hk h1 i hi => ?_⟩
  · rw [h84 85 (by decide)]; exact sh_Mo hS hk
  · rw [h84 85 (by decide)] at h1
    rw [h84 86 (by decide), h84 87 (by decide)]
    exact sh_M2 hS hk h1
  · rw [h84 85 (by decide)] at h1
    rw [h64 _ (by omega)]
    rcases hS k hk with z | z | z
    · omega
    · have := z.2.2.2.2.2 i hi
      rw [← this.1]
      exact this.2
    · have := z.1
      omega
theorem row_eq {M : Mm} (hS : cS M) {s n : Int} (hs : 0 ≤ s ∧ s ≤ 7) (h0 : 0 ≤ M.1 (68 + 2 * s.toNat) 0 ∧ M.1 (68 + 2 * s.toNat) 0 ≤ 4) : ∀ i, i < 40 → M.2 (68 + 2 * s.toNat + 1) i = M.2 (89 + 1 * s.toNat) i := by
  intro i hi
  rcases hS s.toNat (by omega) with z | z | z
  · omega
  · exact (z.2.2.2.2.2 i hi).1
  · have := z.2.1
    omega
theorem wi_M {M M1 : Mm} (hc : cpl M) (h64 : ∀ a, a ≠ 64 → M1.2 a = M.2 a) {s n x : Int} (t : tTold M (vE M 1) s n x = 0) : s_wi (vM M 84) x.toNat (M1.2 (89 + 1 * s.toNat)) n.toNat 0 = s_wi (vE M 1) x.toNat (M.2 (68 + 2 * s.toNat + 1)) n.toNat 0 := by
  rcases tTold_c M (vE M 1) s n x with tv | tv | tv | ⟨tv, t1, t2, t3, t4, t5⟩
  · omega
  · omega
  · omega
  · rw [h64 _ (by omega)]
    exact (wi_c hc.1.2 hc.1.1 _ 0 (fun k hk => row_eq (n := n) hc.2.2.2.2 t1 t4 k (by omega)) (fun k hk => absurd hk (Nat.not_lt_zero k))).symm
theorem ma_eq {M M1 : Mm} (hc : cpl M) (h84 : ∀ a, 84 ≤ a → M1.1 a = M.1 a) (h64 : ∀ a, a ≠ 64 → M1.2 a = M.2 a) (s n x : Int) : a_judgeM M1 (vM M 84) s n x = a_judge M (vE M 1) s n x ∧ a_takesM M1 (vM M 84) s n x = a_takes M (vE M 1) s n x ∧ a_sheetM M1 (vM M 84) s n x = a_sheet M (vE M 1) s n x := by
  have en := nSh_eq (E := vE M 1) (F := vM M 84) hc.2.2.2.2 h84 (hc.1.2.1 2 (by decide)).symm s n x
  unfold a_judgeM a_takesM a_sheetM a_judge a_takes a_sheet tFit
  rw [en]
  by_cases t : tTold M (vE M 1) s n x = 0
  · have ew := wi_M hc h64 t
    rw [if_pos t, if_pos t, if_pos t, if_pos t, if_pos t, ew]
    refine ⟨rfl, ?_⟩
    by_cases hw : s_wi (vE M 1) x.toNat (M.2 (68 + 2 * s.toNat + 1)) n.toNat 0 = -1
    · rw [if_pos hw, if_pos hw, if_pos hw, if_pos rfl, if_pos rfl]
      refine ⟨?_, rfl⟩
      refine congrArg (fun z : Int => (0, z)) ?_
      rcases tTold_c M (vE M 1) s n x with tv | tv | tv | ⟨tv, t1, t2, t3, t4, t5⟩
      · omega
      · omega
      · omega
      · have hok := wi_ok _ _ hw
        rw [h64 _ (by omega)]
        exact (tk_c hc.1.2 hc.1.1 _ (fun k hk => row_eq (n := n) hc.2.2.2.2 t1 t4 k (by omega)) (fun k hk => (hok k (by omega) (by omega)).1)).symm
    · rw [if_neg hw, if_neg hw, if_neg hw, if_neg (by decide), if_neg (by decide)]
      exact ⟨rfl, rfl⟩
  · rw [if_neg t, if_neg t, if_neg t, if_neg t, if_neg t, if_neg t, if_neg t]
    exact ⟨rfl, rfl, rfl⟩
theorem tT_le (M : Mm) (E : Ev) (s n x : Int) : (a_judge M E s n x).1 ≤ 5 ∧ (a_takes M E s n x).1 ≤ 5 ∧ (a_sheet M E s n x).1 ≤ 5 := by
  refine ⟨?_, ?_, ?_⟩
  · unfold a_judge
    rcases tTold_c M E s n x with tv | tv | tv | ⟨tv, -⟩ <;> rw [tv] <;> exact Nat.le_of_ble_eq_true rfl
  · unfold a_takes
    rcases tFit_c M E s n x with tv | tv | tv | tv | ⟨tv, -⟩ <;> rw [tv] <;> exact Nat.le_of_ble_eq_true rfl
  · unfold a_sheet
    rcases tFit_c M E s n x with tv | tv | tv | tv | ⟨tv, -⟩ <;> rw [tv] <;> exact Nat.le_of_ble_eq_true rfl
section SJ
variable {s n x : Int} (hs : -2147483648 ≤ s ∧ s < 2147483648) (hn : -2147483648 ≤ n ∧ n < 2147483648) (hx : -2147483648 ≤ x ∧ x < 2147483648)
theorem S_judge (hs : -2147483648 ≤ s ∧ s < 2147483648) (hn : -2147483648 ≤ n ∧ n < 2147483648) (hx : -2147483648 ≤ x ∧ x < 2147483648) : sameC 103 169 [.inl s, .inl n, .inl x] := by
  intro M hc
  have hS := hc.2.2.2.2
  refine same_ra (hx := 9) (hm := 9) (f := a_judge M (vE M 1) s n x) hc (by decide) (by decide) (tT_le M _ s n x).1 (PX_judge (vE M 1) M isE_self hc.1.1 hS s n x hs hn hx) (fun M1 h84 h64 => ?_)
  obtain ⟨b1, b2, b3⟩ := ab_M hS h84 h64
  have := PM_judge (vM M 84) M1 (isM_x isM_self h84) (ev_ok hc.1.2 hc.1.1) b1 b2 b3 s n x hs hn hx
  rw [(ma_eq hc h84 h64 s n x).1] at this
  exact this
theorem S_takes (hs : -2147483648 ≤ s ∧ s < 2147483648) (hn : -2147483648 ≤ n ∧ n < 2147483648) (hx : -2147483648 ≤ x ∧ x < 2147483648) : sameC 104 170 [.inl s, .inl n, .inl x] := by
  intro M hc
  have hS := hc.2.2.2.2
  refine same_ra (hx := 9) (hm := 9) (f := a_takes M (vE M 1) s n x) hc (by decide) (by decide) (tT_le M _ s n x).2.1 (PX_takes (vE M 1) M isE_self hc.1.1 hS s n x hs hn hx) (fun M1 h84 h64 => ?_)
  obtain ⟨b1, b2, b3⟩ := ab_M hS h84 h64
  have := PM_takes (vM M 84) M1 (isM_x isM_self h84) (ev_ok hc.1.2 hc.1.1) b1 b2 b3 s n x hs hn hx
  rw [(ma_eq hc h84 h64 s n x).2.1] at this
  exact this
theorem S_sheet (hs : -2147483648 ≤ s ∧ s < 2147483648) (hn : -2147483648 ≤ n ∧ n < 2147483648) (hx : -2147483648 ≤ x ∧ x < 2147483648) : sameC 80 168 [.inl s, .inl n, .inl x] := by
  intro M hc
  have hS := hc.2.2.2.2
  refine same_upM (hx := 9) (hm := 9) (bm := 0) (f := a_sheet M (vE M 1) s n x) (u := u_sh (vE M 1) (M.2 (68 + 2 * s.toNat + 1)) n.toNat x.toNat) (u' := u_sh (vM M 84) (M.2 (89 + 1 * s.toNat)) n.toNat x.toNat) (v' := vM M 84) hc (by decide) (by decide) (tT_le M _ s n x).2.2 (Nat.zero_le _) (PX_sheet (vE M 1) M isE_self hc.1.1 hS s n x hs hn hx) (fun M1 h84 h64 => ?_) (fun _ => hc.1.2) (fun h0 => ?_)
  · obtain ⟨b1, b2, b3⟩ := ab_M hS h84 h64
    have := PM_sheet (vM M 84) M1 (isM_x isM_self h84) (ev_ok hc.1.2 hc.1.1) b1 b2 b3 s n x hs hn hx
    rw [(ma_eq hc h84 h64 s n x).2.2] at this
    refine en_Ct_mono this ?_
    rintro r M' ⟨h1, h2⟩
    refine ⟨h1, ?_⟩
    rcases h2 with ⟨h0, h2⟩ | ⟨h0, h2, h3⟩
    · exact ⟨by rw [bl_sM h2, bl_aM]; omega, Or.inl ⟨h0, sM_mF h2, isM_sM (isM_aM (isM_x isM_self h84)) h2⟩⟩
    · refine ⟨by rw [bl_mE h2]; omega, Or.inr ⟨h0, mE_mF h2, ?_⟩⟩
      have hs8 : s.toNat < 8 := by
        rcases tFit_c M (vE M 1) s n x with tv | tv | tv | tv | ⟨tv, t1, -⟩
        · unfold a_sheet at h0; rw [tv] at h0; cases h0
        · unfold a_sheet at h0; rw [tv] at h0; cases h0
        · unfold a_sheet at h0; rw [tv] at h0; cases h0
        · unfold a_sheet at h0; rw [tv] at h0; cases h0
        · omega
      rw [h64 _ (by omega)] at h3
      exact h3
  · rcases tFit_c M (vE M 1) s n x with tv | tv | tv | tv | ⟨tv, t1, t2, t3, t4, t5, t6⟩
    · unfold a_sheet at h0; rw [tv] at h0; cases h0
    · unfold a_sheet at h0; rw [tv] at h0; cases h0
    · unfold a_sheet at h0; rw [tv] at h0; cases h0
    · unfold a_sheet at h0; rw [tv] at h0; cases h0
    · have hok := wi_ok _ _ t6
      exact ⟨ev_sh hc.1.2 (fun i hi => row_eq (n := n) hS t1 t4 i (by omega)), ok_sh (q := x.toNat) hc.1.1 (by omega) (fun k hk => hok k (by omega) (by omega)), Int.le_refl _⟩
end SJ
