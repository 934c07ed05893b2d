theorem R_canStand' (e p : Nat) (x : Int) (M : Mm) (hp : p < 4) (h0 : 0 ≤ x) (h1 : x < M.1 e 1) (hW : s_wok (vE M e)) (hn : s_num (vE M e)) : en_Ct 2 0 21 [.inr (.inr (1, 1, e)), .inl ((p : Nat) : Int), .inl x] M (fun r M' => r = some (.inl (if s_can (vE M e) p x.toNat = true then 1 else 0)) ∧ M' = M) := by
  have h := R_canStand e p x.toNat M hp (by have := (nm_E hn).2.1; omega) (wk_E hW _ (by omega)) hn
  rw [show ((x.toNat : Nat) : Int) = x by omega] at h
  exact h
theorem R_cost' (e : Nat) (x : Int) (M : Mm) (h0 : 0 ≤ x) (h1 : x < M.1 e 1) (hW : s_wok (vE M e)) (hn : s_num (vE M e)) : en_Ct 1 0 18 [.inr (.inr (1, 1, e)), .inl x] M (fun r M' => r = some (.inl (s_cost (vE M e) x.toNat)) ∧ M' = M) := by
  have h := R_cost e x.toNat M (by have := (nm_E hn).2.1; omega) (wk_E hW _ (by omega))
  rw [show ((x.toNat : Nat) : Int) = x by omega] at h
  exact h
theorem cost_b {e : Nat} {x : Int} {M : Mm} (h0 : 0 ≤ x) (h1 : x < M.1 e 1) (hW : s_wok (vE M e)) : 1 ≤ s_cost (vE M e) x.toNat ∧ s_cost (vE M e) x.toNat ≤ 74 := s_cost_b (wk_E hW _ (by omega))
theorem R_passesVote' (e : Nat) (x : Int) (M : Mm) (h0 : 0 ≤ x) (h1 : x < M.1 e 1) (hW : s_wok (vE M e)) (hn : s_num (vE M e)) : en_Ct 2 0 27 [.inr (.inr (1, 1, e)), .inl x] M (fun r M' => r = some (.inl (if s_vote (vE M e) x.toNat = true then 1 else 0)) ∧ M' = M) := by
  have h := R_passesVote e x.toNat M (by have := (nm_E hn).2.1; omega) (wk_E hW _ (by omega)) hn
  rw [show ((x.toNat : Nat) : Int) = x by omega] at h
  exact h
theorem L_writtenBy {post : Option AV → Mm → Prop} (e p : Nat) (M : Mm) (hp : p < 4) (hn : s_num (vE M e)) (hW : s_wok (vE M e)) (hs : s_sh (vE M e) p) (sec : Int) (hsec : -2147483648 ≤ sec ∧ sec < 2147483648) : ∀ (n : Nat) (i : Nat) (t : Int) (b : Nat), (((i : Nat) : Int) + ((n : Nat) : Int) = M.1 (e + 14) p) → (0 ≤ t) → (t ≤ 74 * ((i : Nat) : Int)) → (b < 2 ^ 24) → (post (some (.inl ((s_wr (s_can (vE M e) p) (s_cost (vE M e)) sec (shl (M.1 (e + 9 + 1 + 1 * p)) i n) t b : Nat) : Int))) M) → en_AW 3 0 28 post 8 [some (.inr (.inr (1, 1, e))), some (.inl ((p : Nat) : Int)), some (.inl sec), some (.inl ((b : Nat) : Int)), some (.inl t), some (.inl ((i : Nat) : Int)), none] [] M 0 := by
  intro n
  induction n with
  | zero =>
    intro i t b hi ht0 ht1 hb hq
    obtain ⟨n0, n1, n2, a0, a1, a2, a3, a4, a5, a6, a7⟩ := nm_E hn
    obtain ⟨s1, s2⟩ := sh_E hs
    refine aw_28_8 ?_
    refine ⟨p, rfl, (show p < 4 by omega), ?_⟩
    refine br_ge_y (a := ((i : Nat) : Int)) (b := M.1 (e + 14) p) (by omega) (by omega) (by omega) ?_
    refine aw_28_74 ?_
    exact hq
  | succ n ih =>
    intro i t b hi ht0 ht1 hb hq
    obtain ⟨n0, n1, n2, a0, a1, a2, a3, a4, a5, a6, a7⟩ := nm_E hn
    obtain ⟨s1, s2⟩ := sh_E hs
    obtain ⟨x0, x1⟩ := s2 i (by omega)
    refine aw_28_8 ?_
    refine ⟨p, rfl, (show p < 4 by omega), ?_⟩
    refine br_ge_n (a := ((i : Nat) : Int)) (b := M.1 (e + 14) p) (by omega) (by omega) (by omega) ?_
    refine ⟨p, rfl, (show p < 4 by omega), ?_⟩
    refine ⟨i, rfl, (show i < 5 by omega), ?_⟩
    by_cases c2 : s_can (vE M e) p ((M.1 (e + 9 + 1 + 1 * p) i).toNat) = true
    · refine ⟨2, 0, by first | decide | omega, by first | decide | omega, en_Ct_t (R_canStand' e p (M.1 (e + 9 + 1 + 1 * p) i) _ (by omega) (by omega) (by omega) hW hn) c2 ?_⟩
      refine br_eq_n (by decide) (by decide) (by decide) ?_
      refine ⟨1, 0, by first | decide | omega, by first | decide | omega, en_Ct_eq (R_cost' e (M.1 (e + 9 + 1 + 1 * p) i) _ (by omega) (by omega) hW hn) ?_⟩
      have cb4 := cost_b (e := e) (x := M.1 (e + 9 + 1 + 1 * p) i) (M := M) (by omega) (by omega) hW
      refine br_gt (a := t + (s_cost (vE M e) ((M.1 (e + 9 + 1 + 1 * p) i).toNat))) (b := sec) (by omega) (by omega) (fun q5 => ?_) (fun q5 => ?_)
      · refine aw_28_65 ?_
        refine aw_28_66 ?_
        refine aw_28_68 ?_
        refine en_AW_ls (congrArg (fun z_ : Int => ([some (.inr (.inr (1, 1, e))), some (.inl ((p : Nat) : Int)), some (.inl sec), some (.inl z_), some (.inl (t + (s_cost (vE M e) ((M.1 (e + 9 + 1 + 1 * p) i).toNat)))), some (.inl (((i : Nat) : Int) + 1)), some (.inl (M.1 (e + 9 + 1 + 1 * p) i))] : AL)) (show en_or ((b : Nat) : Int) 0 = ((b : Nat) : Int) from nu_or0 (by omega))) ?_
        refine en_AW_drop [true, true, true, true, true, true, false] ?_
        exact ih (i + 1) (t + (s_cost (vE M e) ((M.1 (e + 9 + 1 + 1 * p) i).toNat))) b (by omega) (by omega) (by omega) (hb) (by clear ih s2 hW hs; simp only [shl, s_wr] at hq; grind)
      · refine aw_28_66 ?_
        refine aw_28_68 ?_
        refine en_AW_ls (congrArg (fun z_ : Int => ([some (.inr (.inr (1, 1, e))), some (.inl ((p : Nat) : Int)), some (.inl sec), some (.inl z_), some (.inl (t + (s_cost (vE M e) ((M.1 (e + 9 + 1 + 1 * p) i).toNat)))), some (.inl (((i : Nat) : Int) + 1)), some (.inl (M.1 (e + 9 + 1 + 1 * p) i))] : AL)) (show en_or ((b : Nat) : Int) (en_shl 1 (M.1 (e + 9 + 1 + 1 * p) i)) = ((b ||| 2 ^ (M.1 (e + 9 + 1 + 1 * p) i).toNat : Nat) : Int) from nu_orset (by omega) (by omega) (by omega))) ?_
        refine en_AW_drop [true, true, true, true, true, true, false] ?_
        exact ih (i + 1) (t + (s_cost (vE M e) ((M.1 (e + 9 + 1 + 1 * p) i).toNat))) (b ||| 2 ^ (M.1 (e + 9 + 1 + 1 * p) i).toNat) (by omega) (by omega) (by omega) (nu_orlt hb (by omega)) (by clear ih s2 hW hs; simp only [shl, s_wr] at hq; grind)
    · refine ⟨2, 0, by first | decide | omega, by first | decide | omega, en_Ct_f (R_canStand' e p (M.1 (e + 9 + 1 + 1 * p) i) _ (by omega) (by omega) (by omega) hW hn) c2 ?_⟩
      refine br_eq_y (by decide) (by decide) (by decide) ?_
      refine aw_28_68 ?_
      refine en_AW_drop [true, true, true, true, true, true, false] ?_
      exact ih (i + 1) t b (by omega) (by omega) (by omega) (hb) (by clear ih s2 hW hs; simp only [shl, s_wr] at hq; grind)
theorem R_writtenBy (e p : Nat) (M : Mm) (hp : p < 4) (hn : s_num (vE M e)) (hW : s_wok (vE M e)) (hs : s_sh (vE M e) p) (sec : Int) (hsec : -2147483648 ≤ sec ∧ sec < 2147483648) : en_Ct 3 0 28 [.inr (.inr (1, 1, e)), .inl ((p : Nat) : Int), .inl sec] M (fun r M' => r = some (.inl ((s_wr (s_can (vE M e) p) (s_cost (vE M e)) sec (s_shl (vE M e) p) 0 0 : Nat) : Int)) ∧ M' = M) := by
  obtain ⟨n0, n1, n2, a0, a1, a2, a3, a4, a5, a6, a7⟩ := nm_E hn
  obtain ⟨s1, s2⟩ := sh_E hs
  refine ct_28 rfl ?_
  refine aw_28_0 ?_
  exact L_writtenBy e p M hp hn hW hs sec hsec (M.1 (e + 14) p).toNat 0 0 0 (by omega) (by omega) (by omega) (by decide) ⟨rfl, rfl⟩
