theorem R_isWord (e : Nat) (x : Int) (hx : -2147483648 ≤ x ∧ x < 2147483648) (M : Mm) (hn : s_num (vE M e)) : en_Ct 2 0 11 [.inr (.inr (1, 1, e)), .inl x] M (fun r M' => r = some (.inl (if 0 ≤ x ∧ x < M.1 e 1 then 1 else 0)) ∧ M' = M) := by
  obtain ⟨n0, n1, n2, a0, a1, a2, a3, a4, a5, a6, a7⟩ := nm_E hn
  refine ct_11 rfl ?_
  refine aw_11_0 ?_
  by_cases c1 : 0 ≤ x ∧ x ≤ ((M.1 e 1) - 1)
  · refine ⟨1, 0, by first | decide | omega, by first | decide | omega, en_Ct_t (R_within x 0 ((M.1 e 1) - 1) (by omega) (by omega) (by omega) _) c1 ?_⟩
    exact ⟨Or.inr rfl, by rw [if_pos (by omega)], rfl⟩
  · refine ⟨1, 0, by first | decide | omega, by first | decide | omega, en_Ct_f (R_within x 0 ((M.1 e 1) - 1) (by omega) (by omega) (by omega) _) c1 ?_⟩
    exact ⟨Or.inl rfl, by rw [if_neg (by omega)], rfl⟩
theorem R_isPerson (e : Nat) (x : Int) (hx : -2147483648 ≤ x ∧ x < 2147483648) (M : Mm) (hn : s_num (vE M e)) : en_Ct 2 0 12 [.inr (.inr (1, 1, e)), .inl x] M (fun r M' => r = some (.inl (if 0 ≤ x ∧ x < M.1 e 2 then 1 else 0)) ∧ M' = M) := by
  obtain ⟨n0, n1, n2, a0, a1, a2, a3, a4, a5, a6, a7⟩ := nm_E hn
  refine ct_12 rfl ?_
  refine aw_12_0 ?_
  by_cases c1 : 0 ≤ x ∧ x ≤ ((M.1 e 2) - 1)
  · refine ⟨1, 0, by first | decide | omega, by first | decide | omega, en_Ct_t (R_within x 0 ((M.1 e 2) - 1) (by omega) (by omega) (by omega) _) c1 ?_⟩
    exact ⟨Or.inr rfl, by rw [if_pos (by omega)], rfl⟩
  · refine ⟨1, 0, by first | decide | omega, by first | decide | omega, en_Ct_f (R_within x 0 ((M.1 e 2) - 1) (by omega) (by omega) (by omega) _) c1 ?_⟩
    exact ⟨Or.inl rfl, by rw [if_neg (by omega)], rfl⟩
theorem R_isColumn (e : Nat) (x : Int) (hx : -2147483648 ≤ x ∧ x < 2147483648) (M : Mm) (hn : s_num (vE M e)) : en_Ct 2 0 13 [.inr (.inr (1, 1, e)), .inl x] M (fun r M' => r = some (.inl (if 0 ≤ x ∧ x < M.1 e 0 then 1 else 0)) ∧ M' = M) := by
  obtain ⟨n0, n1, n2, a0, a1, a2, a3, a4, a5, a6, a7⟩ := nm_E hn
  refine ct_13 rfl ?_
  refine aw_13_0 ?_
  by_cases c1 : 0 ≤ x ∧ x ≤ ((M.1 e 0) - 1)
  · refine ⟨1, 0, by first | decide | omega, by first | decide | omega, en_Ct_t (R_within x 0 ((M.1 e 0) - 1) (by omega) (by omega) (by omega) _) c1 ?_⟩
    exact ⟨Or.inr rfl, by rw [if_pos (by omega)], rfl⟩
  · refine ⟨1, 0, by first | decide | omega, by first | decide | omega, en_Ct_f (R_within x 0 ((M.1 e 0) - 1) (by omega) (by omega) (by omega) _) c1 ?_⟩
    exact ⟨Or.inl rfl, by rw [if_neg (by omega)], rfl⟩
theorem R_hasRoomW (e : Nat) (M : Mm) (hn : s_num (vE M e)) : en_Ct 1 0 14 [.inr (.inr (1, 1, e))] M (fun r M' => r = some (.inl (if M.1 e 1 < 24 then 1 else 0)) ∧ M' = M) := by
  obtain ⟨n0, n1, n2, a0, a1, a2, a3, a4, a5, a6, a7⟩ := nm_E hn
  refine ct_14 rfl ?_
  refine aw_14_0 ?_
  refine br_ge (a := M.1 e 1) (b := 24) (by omega) (by omega) (fun q1 => ?_) (fun q1 => ?_)
  · refine aw_14_13 ?_
    refine aw_14_14 ?_
    exact ⟨Or.inl rfl, by rw [if_neg (by omega)], rfl⟩
  · refine aw_14_14 ?_
    exact ⟨Or.inr rfl, by rw [if_pos (by omega)], rfl⟩
theorem R_hasRoomP (e : Nat) (M : Mm) (hn : s_num (vE M e)) : en_Ct 1 0 15 [.inr (.inr (1, 1, e))] M (fun r M' => r = some (.inl (if M.1 e 2 < 4 then 1 else 0)) ∧ M' = M) := by
  obtain ⟨n0, n1, n2, a0, a1, a2, a3, a4, a5, a6, a7⟩ := nm_E hn
  refine ct_15 rfl ?_
  refine aw_15_0 ?_
  refine br_ge (a := M.1 e 2) (b := 4) (by omega) (by omega) (fun q1 => ?_) (fun q1 => ?_)
  · refine aw_15_12 ?_
    refine aw_15_13 ?_
    exact ⟨Or.inl rfl, by rw [if_neg (by omega)], rfl⟩
  · refine aw_15_13 ?_
    exact ⟨Or.inr rfl, by rw [if_pos (by omega)], rfl⟩
theorem R_knowersMissing (e w : Nat) (M : Mm) (hw24 : w < 24) (hw : s_word (vE M e) w) (hn : s_num (vE M e)) : en_Ct 2 0 26 [.inr (.inr (1, 1, e)), .inl ((w : Nat) : Int)] M (fun r M' => r = some (.inl (if (M.1 e 2 + 1) / 2 - ((s_pc (M.1 (e + 7) w).toNat : Nat) : Int) < 0 then 0 else (M.1 e 2 + 1) / 2 - ((s_pc (M.1 (e + 7) w).toNat : Nat) : Int))) ∧ M' = M) := by
  obtain ⟨k1, k2, k3, k4, k5, k6, k7⟩ := wo_E hw
  obtain ⟨n0, n1, n2, a0, a1, a2, a3, a4, a5, a6, a7⟩ := nm_E hn
  refine ct_26 rfl ?_
  refine aw_26_0 ?_
  refine ⟨by decide, ?_⟩
  refine ⟨w, rfl, (show w < 24 by omega), ?_⟩
  refine ⟨1, 0, by first | decide | omega, by first | decide | omega, en_Ct_eq (R_bitCount' (M.1 (e + 7) w) (by omega) (by omega) _) ?_⟩
  have pb1 := s_pc_b (n := (M.1 (e + 7) w).toNat)
  exact ⟨congrArg (fun z => some (Sum.inl z)) (by rw [nu_half (x := M.1 e 2 + 1) (by omega) (by omega), en_wr_of (x := 0) ⟨by decide, by decide⟩, en_wr_of ⟨by omega, by omega⟩]; split <;> split <;> omega), rfl⟩
theorem L_whole {post : Option AV → Mm → Prop} (e p : Nat) (M : Mm) (hp : p < 4) (hn : s_num (vE M e)) (hW : s_wok (vE M e)) (hs : s_sh (vE M e) p) : ∀ (n : Nat) (i : Nat) (t : Int), (((i : Nat) : Int) + ((n : Nat) : Int) = M.1 (e + 14) p) → (0 ≤ t) → (t ≤ 74 * ((i : Nat) : Int)) → (post (some (.inl (s_tot (s_can (vE M e) p) (s_cost (vE M e)) (shl (M.1 (e + 9 + 1 + 1 * p)) i n) t))) M) → en_AW 3 0 29 post 4 [some (.inr (.inr (1, 1, e))), some (.inl ((p : Nat) : Int)), some (.inl t), some (.inl ((i : Nat) : Int))] [] M 0 := by
  intro n
  induction n with
  | zero =>
    intro i t hi ht0 ht1 hq
    obtain ⟨n0, n1, n2, a0, a1, a2, a3, a4, a5, a6, a7⟩ := nm_E hn
    obtain ⟨s1, s2⟩ := sh_E hs
    refine aw_29_4 ?_
    refine ⟨p, rfl, (show p < 4 by omega), ?_⟩
    refine br_ge_y (a := ((i : Nat) : Int)) (b := M.1 (e + 14) p) (by omega) (by omega) (by omega) ?_
    refine aw_29_55 ?_
    exact hq
  | succ n ih =>
    intro i t hi ht0 ht1 hq
    obtain ⟨n0, n1, n2, a0, a1, a2, a3, a4, a5, a6, a7⟩ := nm_E hn
    obtain ⟨s1, s2⟩ := sh_E hs
    obtain ⟨x0, x1⟩ := s2 i (by omega)
    refine aw_29_4 ?_
    refine ⟨p, rfl, (show p < 4 by omega), ?_⟩
    refine br_ge_n (a := ((i : Nat) : Int)) (b := M.1 (e + 14) p) (by omega) (by omega) (by omega) ?_
    refine ⟨p, rfl, (show p < 4 by omega), ?_⟩
    refine ⟨i, rfl, (show i < 5 by omega), ?_⟩
    by_cases c2 : s_can (vE M e) p ((M.1 (e + 9 + 1 + 1 * p) i).toNat) = true
    · refine ⟨2, 0, by first | decide | omega, by first | decide | omega, en_Ct_t (R_canStand' e p (M.1 (e + 9 + 1 + 1 * p) i) _ (by omega) (by omega) (by omega) hW hn) c2 ?_⟩
      refine br_eq_n (by decide) (by decide) (by decide) ?_
      refine ⟨p, rfl, (show p < 4 by omega), ?_⟩
      refine ⟨i, rfl, (show i < 5 by omega), ?_⟩
      refine ⟨1, 0, by first | decide | omega, by first | decide | omega, en_Ct_eq (R_cost' e (M.1 (e + 9 + 1 + 1 * p) i) _ (by omega) (by omega) hW hn) ?_⟩
      have cb4 := cost_b (e := e) (x := M.1 (e + 9 + 1 + 1 * p) i) (M := M) (by omega) (by omega) hW
      refine aw_29_47 ?_
      exact ih (i + 1) (t + (s_cost (vE M e) ((M.1 (e + 9 + 1 + 1 * p) i).toNat))) (by omega) (by omega) (by omega) (by clear ih s2 hW hs; simp only [shl, s_tot] at hq; grind)
    · refine ⟨2, 0, by first | decide | omega, by first | decide | omega, en_Ct_f (R_canStand' e p (M.1 (e + 9 + 1 + 1 * p) i) _ (by omega) (by omega) (by omega) hW hn) c2 ?_⟩
      refine br_eq_y (by decide) (by decide) (by decide) ?_
      refine aw_29_46 ?_
      refine aw_29_47 ?_
      refine en_AW_ls (congrArg (fun z_ : Int => ([some (.inr (.inr (1, 1, e))), some (.inl ((p : Nat) : Int)), some (.inl z_), some (.inl (((i : Nat) : Int) + 1))] : AL)) (show t + 0 = t from Int.add_zero t)) ?_
      exact ih (i + 1) t (by omega) (by omega) (by omega) (by clear ih s2 hW hs; simp only [shl, s_tot] at hq; grind)
theorem R_whole (e p : Nat) (M : Mm) (hp : p < 4) (hn : s_num (vE M e)) (hW : s_wok (vE M e)) (hs : s_sh (vE M e) p) : en_Ct 3 0 29 [.inr (.inr (1, 1, e)), .inl ((p : Nat) : Int)] M (fun r M' => r = some (.inl (s_tot (s_can (vE M e) p) (s_cost (vE M e)) (s_shl (vE M e) p) 0)) ∧ M' = M) := by
  obtain ⟨n0, n1, n2, a0, a1, a2, a3, a4, a5, a6, a7⟩ := nm_E hn
  obtain ⟨s1, s2⟩ := sh_E hs
  refine ct_29 rfl ?_
  refine aw_29_0 ?_
  exact L_whole e p M hp hn hW hs (M.1 (e + 14) p).toNat 0 0 (by omega) (by omega) (by omega) ⟨rfl, rfl⟩
theorem L_ready {post : Option AV → Mm → Prop} (e p : Nat) (M : Mm) (hp : p < 4) (hn : s_num (vE M e)) (hW : s_wok (vE M e)) (hs : s_sh (vE M e) p) : ∀ (n : Nat) (i : Nat) (t : Int) (k : Int), (((i : Nat) : Int) + ((n : Nat) : Int) = M.1 (e + 14) p) → (0 ≤ t) → (t ≤ 74 * ((i : Nat) : Int)) → (0 ≤ k) → (k ≤ ((i : Nat) : Int)) → (post (some (.inl (s_rd (s_can (vE M e) p) (s_cost (vE M e)) (M.1 (e + 1) 1) 1000000 (shl (M.1 (e + 9 + 1 + 1 * p)) i n) t k))) M) → en_AW 3 0 30 post 7 [some (.inr (.inr (1, 1, e))), some (.inl ((p : Nat) : Int)), some (.inl t), some (.inl k), some (.inl ((i : Nat) : Int)), none] [] M 0 := by
  intro n
  induction n with
  | zero =>
    intro i t k hi ht0 ht1 hk0 hk1 hq
    obtain ⟨n0, n1, n2, a0, a1, a2, a3, a4, a5, a6, a7⟩ := nm_E hn
    obtain ⟨s1, s2⟩ := sh_E hs
    refine aw_30_7 ?_
    refine ⟨p, rfl, (show p < 4 by omega), ?_⟩
    refine br_ge_y (a := ((i : Nat) : Int)) (b := M.1 (e + 14) p) (by omega) (by omega) (by omega) ?_
    refine aw_30_69 ?_
    exact hq
  | succ n ih =>
    intro i t k hi ht0 ht1 hk0 hk1 hq
    obtain ⟨n0, n1, n2, a0, a1, a2, a3, a4, a5, a6, a7⟩ := nm_E hn
    obtain ⟨s1, s2⟩ := sh_E hs
    obtain ⟨x0, x1⟩ := s2 i (by omega)
    refine aw_30_7 ?_
    refine ⟨p, rfl, (show p < 4 by omega), ?_⟩
    refine br_ge_n (a := ((i : Nat) : Int)) (b := M.1 (e + 14) p) (by omega) (by omega) (by omega) ?_
    refine ⟨p, rfl, (show p < 4 by omega), ?_⟩
    refine ⟨i, rfl, (show i < 5 by omega), ?_⟩
    by_cases c2 : s_can (vE M e) p ((M.1 (e + 9 + 1 + 1 * p) i).toNat) = true
    · refine ⟨2, 0, by first | decide | omega, by first | decide | omega, en_Ct_t (R_canStand' e p (M.1 (e + 9 + 1 + 1 * p) i) _ (by omega) (by omega) (by omega) hW hn) c2 ?_⟩
      refine br_eq_n (by decide) (by decide) (by decide) ?_
      refine ⟨1, 0, by first | decide | omega, by first | decide | omega, en_Ct_eq (R_cost' e (M.1 (e + 9 + 1 + 1 * p) i) _ (by omega) (by omega) hW hn) ?_⟩
      have cb4 := cost_b (e := e) (x := M.1 (e + 9 + 1 + 1 * p) i) (M := M) (by omega) (by omega) hW
      refine ⟨1, rfl, (show 1 < 8 by omega), ?_⟩
      refine br_ne (a := k + 1) (b := M.1 (e + 1) 1) (by omega) (by omega) (fun q5 => ?_) (fun q5 => ?_)
      · refine aw_30_63 ?_
        refine en_AW_drop [true, true, true, true, true, false] ?_
        exact ih (i + 1) (t + (s_cost (vE M e) ((M.1 (e + 9 + 1 + 1 * p) i).toNat))) (k + 1) (by omega) (by omega) (by omega) (by omega) (by omega) (by clear ih s2 hW hs; simp only [shl, s_rd] at hq; grind)
      · refine (show post (some (.inl (t + (s_cost (vE M e) ((M.1 (e + 9 + 1 + 1 * p) i).toNat))))) M from ?_)
        clear ih s2 hW hs
        simp only [shl, s_rd] at hq
        grind
    · refine ⟨2, 0, by first | decide | omega, by first | decide | omega, en_Ct_f (R_canStand' e p (M.1 (e + 9 + 1 + 1 * p) i) _ (by omega) (by omega) (by omega) hW hn) c2 ?_⟩
      refine br_eq_y (by decide) (by decide) (by decide) ?_
      refine aw_30_63 ?_
      refine en_AW_drop [true, true, true, true, true, false] ?_
      exact ih (i + 1) t k (by omega) (by omega) (by omega) (by omega) (by omega) (by clear ih s2 hW hs; simp only [shl, s_rd] at hq; grind)
theorem R_ready (e p : Nat) (M : Mm) (hp : p < 4) (hn : s_num (vE M e)) (hW : s_wok (vE M e)) (hs : s_sh (vE M e) p) : en_Ct 3 0 30 [.inr (.inr (1, 1, e)), .inl ((p : Nat) : Int)] M (fun r M' => r = some (.inl (s_rd (s_can (vE M e) p) (s_cost (vE M e)) (M.1 (e + 1) 1) 1000000 (s_shl (vE M e) p) 0 0)) ∧ M' = M) := by
  obtain ⟨n0, n1, n2, a0, a1, a2, a3, a4, a5, a6, a7⟩ := nm_E hn
  obtain ⟨s1, s2⟩ := sh_E hs
  refine ct_30 rfl ?_
  refine aw_30_0 ?_
  exact L_ready e p M hp hn hW hs (M.1 (e + 14) p).toNat 0 0 0 (by omega) (by omega) (by omega) (by omega) (by omega) ⟨rfl, rfl⟩
