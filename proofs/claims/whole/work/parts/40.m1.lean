theorem R_in (v a b v' a' b' : Int) (hv : en_wl v = v') (ha : en_wl a = a') (hb : en_wl b = b') (M : Mm) : en_Ct 1 0 141 [.inr (.inl v), .inr (.inl a), .inr (.inl b)] M (fun r M' => r = some (.inl (if a' ≤ v' ∧ v' ≤ b' then 1 else 0)) ∧ M' = M) := by
  refine ct_141 rfl ?_
  refine aw_141_0 ?_
  refine lc_lt (a := v) (b := a) (a' := v') (b' := a') (hv) (ha) (fun q1 => ?_) (fun q1 => ?_)
  · refine aw_141_17 ?_
    refine aw_141_18 ?_
    exact ⟨Or.inl rfl, by rw [if_neg (by omega)], rfl⟩
  · refine lc_gt (a := v) (b := b) (a' := v') (b' := b') (hv) (hb) (fun q2 => ?_) (fun q2 => ?_)
    · refine aw_141_17 ?_
      refine aw_141_18 ?_
      exact ⟨Or.inl rfl, by rw [if_neg (by omega)], rfl⟩
    · refine aw_141_18 ?_
      exact ⟨Or.inr rfl, by rw [if_pos (by omega)], rfl⟩
theorem R_isWordM (b : Nat) (x : Int) (hx : -2147483648 ≤ x ∧ x < 2147483648) (M : Mm) (hn : s_num (vM M b)) : en_Ct 2 0 142 [.inr (.inr (1, 6, b)), .inl x] M (fun r M' => r = some (.inl (if 0 ≤ x ∧ x < M.1 b 10 then 1 else 0)) ∧ M' = M) := by
  obtain ⟨n0, n1, n2, a0, a1, a2, a3, a4, a5, a6, a7⟩ := nm_M hn
  refine ct_142 rfl ?_
  refine aw_142_0 ?_
  by_cases c1 : 0 ≤ x ∧ x ≤ ((M.1 b 10) - 1)
  · refine ⟨1, 0, by first | decide | omega, by first | decide | omega, en_Ct_t (R_in (en_wr x) 0 (en_wr ((M.1 b 10) - 1)) x 0 ((M.1 b 10) - 1) (wl_wr ⟨by omega, by omega⟩) (wl_of ⟨by omega, by omega⟩) (wl_wr ⟨by omega, by omega⟩) _) c1 ?_⟩
    exact ⟨Or.inr rfl, by rw [if_pos (by omega)], rfl⟩
  · refine ⟨1, 0, by first | decide | omega, by first | decide | omega, en_Ct_f (R_in (en_wr x) 0 (en_wr ((M.1 b 10) - 1)) x 0 ((M.1 b 10) - 1) (wl_wr ⟨by omega, by omega⟩) (wl_of ⟨by omega, by omega⟩) (wl_wr ⟨by omega, by omega⟩) _) c1 ?_⟩
    exact ⟨Or.inl rfl, by rw [if_neg (by omega)], rfl⟩
theorem R_isPersonM (b : Nat) (x : Int) (hx : -2147483648 ≤ x ∧ x < 2147483648) (M : Mm) (hn : s_num (vM M b)) : en_Ct 2 0 143 [.inr (.inr (1, 6, b)), .inl x] M (fun r M' => r = some (.inl (if 0 ≤ x ∧ x < M.1 b 18 then 1 else 0)) ∧ M' = M) := by
  obtain ⟨n0, n1, n2, a0, a1, a2, a3, a4, a5, a6, a7⟩ := nm_M hn
  refine ct_143 rfl ?_
  refine aw_143_0 ?_
  by_cases c1 : 0 ≤ x ∧ x ≤ ((M.1 b 18) - 1)
  · refine ⟨1, 0, by first | decide | omega, by first | decide | omega, en_Ct_t (R_in (en_wr x) 0 (en_wr ((M.1 b 18) - 1)) x 0 ((M.1 b 18) - 1) (wl_wr ⟨by omega, by omega⟩) (wl_of ⟨by omega, by omega⟩) (wl_wr ⟨by omega, by omega⟩) _) c1 ?_⟩
    exact ⟨Or.inr rfl, by rw [if_pos (by omega)], rfl⟩
  · refine ⟨1, 0, by first | decide | omega, by first | decide | omega, en_Ct_f (R_in (en_wr x) 0 (en_wr ((M.1 b 18) - 1)) x 0 ((M.1 b 18) - 1) (wl_wr ⟨by omega, by omega⟩) (wl_of ⟨by omega, by omega⟩) (wl_wr ⟨by omega, by omega⟩) _) c1 ?_⟩
    exact ⟨Or.inl rfl, by rw [if_neg (by omega)], rfl⟩
def s_pcn (n k : Nat) : Nat := ((List.range k).filter (fun j => n.testBit j)).length
theorem s_pcn_s {n k : Nat} : s_pcn n (k + 1) = s_pcn n k + (if n.testBit k = true then 1 else 0) := by
  unfold s_pcn
  rw [List.range_succ, List.filter_append, List.length_append]
  congr 1
  by_cases h : n.testBit k = true
  · rw [if_pos h, List.filter_cons_of_pos h]; rfl
  · rw [if_neg h, List.filter_cons_of_neg h]; rfl
theorem s_pcn_le (n : Nat) : ∀ k, s_pcn n k ≤ k := fun k => Nat.le_trans (List.length_filter_le _ _) (by simp)
theorem L_bits {post : Option AV → Mm → Prop} (x : Nat) (hx : x < 2 ^ 31) (M : Mm) (hq : post (some (.inl ((s_pc x : Nat) : Int))) M) : ∀ (n : Nat) (i : Nat), (i + n = 24) → en_AW 1 0 144 post 4 [some (.inl ((x : Nat) : Int)), some (.inl ((s_pcn x i : Nat) : Int)), some (.inl ((i : Nat) : Int))] [] M 0 := by
  intro n
  induction n with
  | zero =>
    intro i hi
    refine aw_144_4 ?_
    refine br_ge_y (a := ((i : Nat) : Int)) (b := 24) (by omega) (by omega) (by omega) ?_
    refine aw_144_24 ?_
    rw [show i = 24 by omega]
    exact hq
  | succ n ih =>
    intro i hi
    have hb := s_pcn_le x i
    refine aw_144_4 ?_
    refine br_ge_n (a := ((i : Nat) : Int)) (b := 24) (by omega) (by omega) (by omega) ?_
    refine en_AW_ls (congrArg (fun z_ : Int => ([some (.inl ((x : Nat) : Int)), some (.inl z_), some (.inl (((i : Nat) : Int) + 1))] : AL)) (show ((s_pcn x i : Nat) : Int) + (en_and (en_shr ((x : Nat) : Int) ((i : Nat) : Int)) 1) = ((s_pcn x (i + 1) : Nat) : Int) from by rw [nu_bit hx (by omega), s_pcn_s]; split <;> simp)) ?_
    exact ih (i + 1) (by omega)
theorem R_bits (x : Nat) (hx : x < 2 ^ 31) (M : Mm) : en_Ct 1 0 144 [.inl ((x : Nat) : Int)] M (fun r M' => r = some (.inl (((s_pc x : Nat) : Int))) ∧ M' = M) := by
  refine ct_144 rfl ?_
  refine aw_144_0 ?_
  exact L_bits x hx M ⟨rfl, rfl⟩ 24 0 (by omega)
theorem R_bits' (x : Int) (h0 : 0 ≤ x) (hx : x < 2147483648) (M : Mm) : en_Ct 1 0 144 [.inl x] M (fun r M' => r = some (.inl ((s_pc x.toNat : Nat) : Int)) ∧ M' = M) := by
  have h := R_bits x.toNat (by omega) M
  rw [show ((x.toNat : Nat) : Int) = x by omega] at h
  exact h
theorem R_takesOf (b w : Nat) (M : Mm) (hw24 : w < 24) (hw : s_word (vM M b) w) : en_Ct 1 0 189 [.inr (.inr (1, 6, b)), .inl ((w : Nat) : Int)] M (fun r M' => r = some (.inl (s_cost (vM M b) w)) ∧ M' = M) := by
  obtain ⟨k1, k2, k3, k4, k5, k6, k7⟩ := wo_M hw
  refine ct_189 rfl ?_
  refine aw_189_0 ?_
  refine ⟨w, rfl, (show w < 24 by omega), ?_⟩
  refine tb_i (a := M.1 (b + 17) w) (by omega) ?_
  refine ⟨fun q1 => ?_, fun q1 => ?_⟩
  · refine aw_189_40 ?_
    refine ⟨w, rfl, (show w < 24 by omega), ?_⟩
    refine br_ge (a := M.1 (b + 20) w) (b := 2) (by omega) (by omega) (fun q2 => ?_) (fun q2 => ?_)
    · refine aw_189_54 ?_
      refine ⟨w, rfl, (show w < 24 by omega), ?_⟩
      refine ⟨by decide, ?_⟩
      refine aw_189_62 ?_
      exact ⟨congrArg (fun z => some (Sum.inl z)) (by rw [s_cost_M]; unfold s_half; rw [nu_half (by omega) (by omega)]; split <;> (try split) <;> (try split) <;> omega), rfl⟩
    · refine aw_189_62 ?_
      exact ⟨congrArg (fun z => some (Sum.inl z)) (by rw [s_cost_M]; unfold s_half; split <;> (try split) <;> (try split) <;> (try split) <;> omega), rfl⟩
  · refine ⟨fun q3 => ?_, fun q3 => ?_⟩
    · refine aw_189_63 ?_
      refine ⟨w, rfl, (show w < 24 by omega), ?_⟩
      refine ⟨w, rfl, (show w < 24 by omega), ?_⟩
      exact ⟨congrArg (fun z => some (Sum.inl z)) (by rw [s_cost_M]; unfold s_half; split <;> (try split) <;> (try split) <;> (try split) <;> omega), rfl⟩
    · refine ⟨fun q4 => ?_, fun q4 => ?_⟩
      · refine aw_189_40 ?_
        refine ⟨w, rfl, (show w < 24 by omega), ?_⟩
        refine br_ge (a := M.1 (b + 20) w) (b := 2) (by omega) (by omega) (fun q5 => ?_) (fun q5 => ?_)
        · refine aw_189_54 ?_
          refine ⟨w, rfl, (show w < 24 by omega), ?_⟩
          refine ⟨by decide, ?_⟩
          refine aw_189_62 ?_
          exact ⟨congrArg (fun z => some (Sum.inl z)) (by rw [s_cost_M]; unfold s_half; rw [nu_half (by omega) (by omega)]; split <;> (try split) <;> (try split) <;> omega), rfl⟩
        · refine aw_189_62 ?_
          exact ⟨congrArg (fun z => some (Sum.inl z)) (by rw [s_cost_M]; unfold s_half; split <;> (try split) <;> (try split) <;> (try split) <;> omega), rfl⟩
      · refine ⟨fun q6 => ?_, fun q6 => ?_⟩
        · refine aw_189_93 ?_
          refine ⟨w, rfl, (show w < 24 by omega), ?_⟩
          exact ⟨congrArg (fun z => some (Sum.inl z)) (by rw [s_cost_M]; unfold s_half; split <;> (try split) <;> (try split) <;> (try split) <;> omega), rfl⟩
        · refine ⟨fun q7 => ?_, fun q7 => ?_⟩
          · refine aw_189_77 ?_
            refine ⟨w, rfl, (show w < 24 by omega), ?_⟩
            refine ⟨w, rfl, (show w < 24 by omega), ?_⟩
            exact ⟨congrArg (fun z => some (Sum.inl z)) (by rw [s_cost_M]; unfold s_half; split <;> (try split) <;> (try split) <;> (try split) <;> omega), rfl⟩
          · refine aw_189_93 ?_
            refine ⟨w, rfl, (show w < 24 by omega), ?_⟩
            exact ⟨congrArg (fun z => some (Sum.inl z)) (by rw [s_cost_M]; unfold s_half; split <;> (try split) <;> (try split) <;> (try split) <;> omega), rfl⟩
theorem R_mayBe (b p w : Nat) (M : Mm) (hp : p < 4) (hw24 : w < 24) (hw : s_word (vM M b) w) (hn : s_num (vM M b)) : en_Ct 1 0 164 [.inr (.inr (1, 6, b)), .inl ((p : Nat) : Int), .inl ((w : Nat) : Int)] M (fun r M' => r = some (.inl (if s_can (vM M b) p w = true then 1 else 0)) ∧ M' = M) := by
  obtain ⟨k1, k2, k3, k4, k5, k6, k7⟩ := wo_M hw
  obtain ⟨n0, n1, n2, a0, a1, a2, a3, a4, a5, a6, a7⟩ := nm_M hn
  have h1 := nu_kn (p := p) k6.1 k6.2 (by omega)
  have h2 := nu_and1 (en_shr (M.1 (b + 22) w) (p : Int))
  refine ct_164 rfl ?_
  refine aw_164_0 ?_
  refine ⟨w, rfl, (show w < 24 by omega), ?_⟩
  refine ⟨0, rfl, (show 0 < 8 by omega), ?_⟩
  refine br_ne (a := M.1 (b + 18) w) (b := M.1 (b + 31) 0) (by omega) (by omega) (fun q1 => ?_) (fun q1 => ?_)
  · refine aw_164_51 ?_
    refine aw_164_52 ?_
    exact ⟨Or.inl rfl, by rw [s_can_M, s_kn_M, s_bar_M]; grind, rfl⟩
  · refine ⟨w, rfl, (show w < 24 by omega), ?_⟩
    refine br_eq (a := en_and (en_shr (M.1 (b + 22) w) ((p : Nat) : Int)) 1) (b := 0) (by omega) (by omega) (fun q2 => ?_) (fun q2 => ?_)
    · refine aw_164_51 ?_
      refine aw_164_52 ?_
      exact ⟨Or.inl rfl, by rw [s_can_M, s_kn_M, s_bar_M]; grind, rfl⟩
    · refine ⟨7, rfl, (show 7 < 8 by omega), ?_⟩
      refine br_eq (a := M.1 (b + 31) 7) (b := 0) (by omega) (by omega) (fun q3 => ?_) (fun q3 => ?_)
      · refine aw_164_47 ?_
        refine aw_164_52 ?_
        exact ⟨Or.inr rfl, by rw [s_can_M, s_kn_M, s_bar_M]; grind, rfl⟩
      · refine ⟨w, rfl, (show w < 24 by omega), ?_⟩
        refine br_ne (a := M.1 (b + 23) w) (b := 0) (by omega) (by omega) (fun q4 => ?_) (fun q4 => ?_)
        · refine aw_164_51 ?_
          refine aw_164_52 ?_
          exact ⟨Or.inl rfl, by rw [s_can_M, s_kn_M, s_bar_M]; grind, rfl⟩
        · refine aw_164_47 ?_
          refine aw_164_52 ?_
          exact ⟨Or.inr rfl, by rw [s_can_M, s_kn_M, s_bar_M]; grind, rfl⟩
theorem R_takesOf' (b : Nat) (x : Int) (M : Mm) (h0 : 0 ≤ x) (h1 : x < M.1 b 10) (hW : s_wok (vM M b)) (hn : s_num (vM M b)) : en_Ct 1 0 189 [.inr (.inr (1, 6, b)), .inl x] M (fun r M' => r = some (.inl (s_cost (vM M b) x.toNat)) ∧ M' = M) := by
  have h := R_takesOf b x.toNat M (by have := (nm_M hn).2.1; omega) (wk_M hW _ (by omega))
  rw [show ((x.toNat : Nat) : Int) = x by omega] at h
  exact h
theorem R_mayBe' (b p : Nat) (x : Int) (M : Mm) (hp : p < 4) (h0 : 0 ≤ x) (h1 : x < M.1 b 10) (hW : s_wok (vM M b)) (hn : s_num (vM M b)) : en_Ct 1 0 164 [.inr (.inr (1, 6, b)), .inl ((p : Nat) : Int), .inl x] M (fun r M' => r = some (.inl (if s_can (vM M b) p x.toNat = true then 1 else 0)) ∧ M' = M) := by
  have h := R_mayBe b p x.toNat M hp (by have := (nm_M hn).2.1; omega) (wk_M hW _ (by omega)) hn
  rw [show ((x.toNat : Nat) : Int) = x by omega] at h
  exact h
theorem costM_b {b : Nat} {x : Int} {M : Mm} (h0 : 0 ≤ x) (h1 : x < M.1 b 10) (hW : s_wok (vM M b)) : 1 ≤ s_cost (vM M b) x.toNat ∧ s_cost (vM M b) x.toNat ≤ 74 := s_cost_b (wk_M hW _ (by omega))
theorem L_hasBy {post : Option AV → Mm → Prop} (b p : Nat) (M : Mm) (hp : p < 4) (hn : s_num (vM M b)) (hW : s_wok (vM M b)) (hs : s_sh (vM M b) p) (m : Int) (hm : -2147483648 ≤ m ∧ m < 2147483648) : ∀ (n : Nat) (i : Nat) (t : Int) (k : Int), (((i : Nat) : Int) + ((n : Nat) : Int) = M.1 (b + 29) p) → (0 ≤ t) → (t ≤ 74 * ((i : Nat) : Int)) → (0 ≤ k) → (k ≤ ((i : Nat) : Int)) → (post (some (.inl (s_rd (s_can (vM M b) p) (s_cost (vM M b)) m (-1) (shl (M.1 (b + 24 + 1 + 1 * p)) i n) t k))) M) → en_AW 2 0 190 post 8 [some (.inr (.inr (1, 6, b))), some (.inl ((p : Nat) : Int)), some (.inl m), some (.inl t), some (.inl k), some (.inl ((i : Nat) : Int))] [] M 0 := by
  intro n
  induction n with
  | zero =>
    intro i t k hi ht0 ht1 hk0 hk1 hq
    obtain ⟨n0, n1, n2, a0, a1, a2, a3, a4, a5, a6, a7⟩ := nm_M hn
    obtain ⟨s1, s2⟩ := sh_M hs
    refine aw_190_8 ?_
    refine ⟨p, rfl, (show p < 4 by omega), ?_⟩
    refine br_ge_y (a := ((i : Nat) : Int)) (b := M.1 (b + 29) p) (by omega) (by omega) (by omega) ?_
    refine aw_190_69 ?_
    exact hq
  | succ n ih =>
    intro i t k hi ht0 ht1 hk0 hk1 hq
    obtain ⟨n0, n1, n2, a0, a1, a2, a3, a4, a5, a6, a7⟩ := nm_M hn
    obtain ⟨s1, s2⟩ := sh_M hs
    obtain ⟨x0, x1⟩ := s2 i (by omega)
    refine aw_190_8 ?_
    refine ⟨p, rfl, (show p < 4 by omega), ?_⟩
    refine br_ge_n (a := ((i : Nat) : Int)) (b := M.1 (b + 29) p) (by omega) (by omega) (by omega) ?_
    refine ⟨p, rfl, (show p < 4 by omega), ?_⟩
    refine ⟨i, rfl, (show i < 5 by omega), ?_⟩
    by_cases c2 : s_can (vM M b) p ((M.1 (b + 24 + 1 + 1 * p) i).toNat) = true
    · refine ⟨1, 0, by first | decide | omega, by first | decide | omega, en_Ct_t (R_mayBe' b p (M.1 (b + 24 + 1 + 1 * p) i) _ (by omega) (by omega) (by omega) hW hn) c2 ?_⟩
      refine br_eq_n (by decide) (by decide) (by decide) ?_
      refine ⟨p, rfl, (show p < 4 by omega), ?_⟩
      refine ⟨i, rfl, (show i < 5 by omega), ?_⟩
      refine ⟨1, 0, by first | decide | omega, by first | decide | omega, en_Ct_eq (R_takesOf' b (M.1 (b + 24 + 1 + 1 * p) i) _ (by omega) (by omega) hW hn) ?_⟩
      have cb4 := costM_b (b := b) (x := M.1 (b + 24 + 1 + 1 * p) i) (M := M) (by omega) (by omega) hW
      refine br_ne (a := k + 1) (b := m) (by omega) (by omega) (fun q5 => ?_) (fun q5 => ?_)
      · refine aw_190_63 ?_
        exact ih (i + 1) (t + (s_cost (vM M b) ((M.1 (b + 24 + 1 + 1 * p) i).toNat))) (k + 1) (by omega) (by omega) (by omega) (by omega) (by omega) (by clear ih s2 hW hs; simp only [shl, s_rd] at hq; grind)
      · refine (show post (some (.inl (t + (s_cost (vM M b) ((M.1 (b + 24 + 1 + 1 * p) i).toNat))))) M from ?_)
        clear ih s2 hW hs
        simp only [shl, s_rd] at hq
        grind
    · refine ⟨1, 0, by first | decide | omega, by first | decide | omega, en_Ct_f (R_mayBe' b p (M.1 (b + 24 + 1 + 1 * p) i) _ (by omega) (by omega) (by omega) hW hn) c2 ?_⟩
      refine br_eq_y (by decide) (by decide) (by decide) ?_
      refine aw_190_63 ?_
      exact ih (i + 1) t k (by omega) (by omega) (by omega) (by omega) (by omega) (by clear ih s2 hW hs; simp only [shl, s_rd] at hq; grind)
theorem R_hasBy (b p : Nat) (M : Mm) (hp : p < 4) (hn : s_num (vM M b)) (hW : s_wok (vM M b)) (hs : s_sh (vM M b) p) (m : Int) (hm : -2147483648 ≤ m ∧ m < 2147483648) : en_Ct 2 0 190 [.inr (.inr (1, 6, b)), .inl ((p : Nat) : Int), .inl m] M (fun r M' => r = some (.inl (s_rd (s_can (vM M b) p) (s_cost (vM M b)) m (-1) (s_shl (vM M b) p) 0 0)) ∧ M' = M) := by
  obtain ⟨n0, n1, n2, a0, a1, a2, a3, a4, a5, a6, a7⟩ := nm_M hn
  obtain ⟨s1, s2⟩ := sh_M hs
  refine ct_190 rfl ?_
  refine aw_190_0 ?_
  exact L_hasBy b p M hp hn hW hs m hm (M.1 (b + 29) p).toNat 0 0 0 (by omega) (by omega) (by omega) (by omega) (by omega) ⟨rfl, rfl⟩
theorem L_writtenM {post : Option AV → Mm → Prop} (b p : Nat) (M : Mm) (hp : p < 4) (hn : s_num (vM M b)) (hW : s_wok (vM M b)) (hs : s_sh (vM M b) p) (sec : Int) (hsec : -2147483648 ≤ sec ∧ sec < 2147483648) : ∀ (n : Nat) (i : Nat) (t : Int) (c : Nat), (((i : Nat) : Int) + ((n : Nat) : Int) = M.1 (b + 29) p) → (0 ≤ t) → (t ≤ 74 * ((i : Nat) : Int)) → (c < 2 ^ 24) → (post (some (.inl ((s_wr (s_can (vM M b) p) (s_cost (vM M b)) sec (shl (M.1 (b + 24 + 1 + 1 * p)) i n) t c : Nat) : Int))) M) → en_AW 2 0 191 post 8 [some (.inr (.inr (1, 6, b))), some (.inl ((p : Nat) : Int)), some (.inl sec), some (.inl ((c : Nat) : Int)), some (.inl t), some (.inl ((i : Nat) : Int))] [] M 0 := by
  intro n
  induction n with
  | zero =>
    intro i t c hi ht0 ht1 hb hq
    obtain ⟨n0, n1, n2, a0, a1, a2, a3, a4, a5, a6, a7⟩ := nm_M hn
    obtain ⟨s1, s2⟩ := sh_M hs
    refine aw_191_8 ?_
    refine ⟨p, rfl, (show p < 4 by omega), ?_⟩
    refine br_ge_y (a := ((i : Nat) : Int)) (b := M.1 (b + 29) p) (by omega) (by omega) (by omega) ?_
    refine aw_191_84 ?_
    exact hq
  | succ n ih =>
    intro i t c hi ht0 ht1 hb hq
    obtain ⟨n0, n1, n2, a0, a1, a2, a3, a4, a5, a6, a7⟩ := nm_M hn
    obtain ⟨s1, s2⟩ := sh_M hs
    obtain ⟨x0, x1⟩ := s2 i (by omega)
    refine aw_191_8 ?_
    refine ⟨p, rfl, (show p < 4 by omega), ?_⟩
    refine br_ge_n (a := ((i : Nat) : Int)) (b := M.1 (b + 29) p) (by omega) (by omega) (by omega) ?_
    refine ⟨p, rfl, (show p < 4 by omega), ?_⟩
    refine ⟨i, rfl, (show i < 5 by omega), ?_⟩
    by_cases c2 : s_can (vM M b) p ((M.1 (b + 24 + 1 + 1 * p) i).toNat) = true
    · refine ⟨1, 0, by first | decide | omega, by first | decide | omega, en_Ct_t (R_mayBe' b p (M.1 (b + 24 + 1 + 1 * p) i) _ (by omega) (by omega) (by omega) hW hn) c2 ?_⟩
      refine br_eq_n (by decide) (by decide) (by decide) ?_
      refine ⟨p, rfl, (show p < 4 by omega), ?_⟩
      refine ⟨i, rfl, (show i < 5 by omega), ?_⟩
      refine ⟨1, 0, by first | decide | omega, by first | decide | omega, en_Ct_eq (R_takesOf' b (M.1 (b + 24 + 1 + 1 * p) i) _ (by omega) (by omega) hW hn) ?_⟩
      have cb4 := costM_b (b := b) (x := M.1 (b + 24 + 1 + 1 * p) i) (M := M) (by omega) (by omega) hW
      refine br_gt (a := t + (s_cost (vM M b) ((M.1 (b + 24 + 1 + 1 * p) i).toNat))) (b := sec) (by omega) (by omega) (fun q5 => ?_) (fun q5 => ?_)
      · refine aw_191_75 ?_
        refine aw_191_76 ?_
        refine aw_191_78 ?_
        refine en_AW_ls (congrArg (fun z_ : Int => ([some (.inr (.inr (1, 6, b))), some (.inl ((p : Nat) : Int)), some (.inl sec), some (.inl z_), some (.inl (t + (s_cost (vM M b) ((M.1 (b + 24 + 1 + 1 * p) i).toNat)))), some (.inl (((i : Nat) : Int) + 1))] : AL)) (show en_or ((c : Nat) : Int) 0 = ((c : Nat) : Int) from nu_or0 (by omega))) ?_
        exact ih (i + 1) (t + (s_cost (vM M b) ((M.1 (b + 24 + 1 + 1 * p) i).toNat))) c (by omega) (by omega) (by omega) (hb) (by clear ih s2 hW hs; simp only [shl, s_wr] at hq; grind)
      · refine ⟨p, rfl, (show p < 4 by omega), ?_⟩
        refine ⟨i, rfl, (show i < 5 by omega), ?_⟩
        refine aw_191_76 ?_
        refine aw_191_78 ?_
        refine en_AW_ls (congrArg (fun z_ : Int => ([some (.inr (.inr (1, 6, b))), some (.inl ((p : Nat) : Int)), some (.inl sec), some (.inl z_), some (.inl (t + (s_cost (vM M b) ((M.1 (b + 24 + 1 + 1 * p) i).toNat)))), some (.inl (((i : Nat) : Int) + 1))] : AL)) (show en_or ((c : Nat) : Int) (en_shl 1 (M.1 (b + 24 + 1 + 1 * p) i)) = ((c ||| 2 ^ (M.1 (b + 24 + 1 + 1 * p) i).toNat : Nat) : Int) from nu_orset (by omega) (by omega) (by omega))) ?_
        exact ih (i + 1) (t + (s_cost (vM M b) ((M.1 (b + 24 + 1 + 1 * p) i).toNat))) (c ||| 2 ^ (M.1 (b + 24 + 1 + 1 * p) i).toNat) (by omega) (by omega) (by omega) (nu_orlt hb (by omega)) (by clear ih s2 hW hs; simp only [shl, s_wr] at hq; grind)
    · refine ⟨1, 0, by first | decide | omega, by first | decide | omega, en_Ct_f (R_mayBe' b p (M.1 (b + 24 + 1 + 1 * p) i) _ (by omega) (by omega) (by omega) hW hn) c2 ?_⟩
      refine br_eq_y (by decide) (by decide) (by decide) ?_
      refine aw_191_78 ?_
      exact ih (i + 1) t c (by omega) (by omega) (by omega) (hb) (by clear ih s2 hW hs; simp only [shl, s_wr] at hq; grind)
theorem R_writtenM (b p : Nat) (M : Mm) (hp : p < 4) (hn : s_num (vM M b)) (hW : s_wok (vM M b)) (hs : s_sh (vM M b) p) (sec : Int) (hsec : -2147483648 ≤ sec ∧ sec < 2147483648) : en_Ct 2 0 191 [.inr (.inr (1, 6, b)), .inl ((p : Nat) : Int), .inl sec] M (fun r M' => r = some (.inl (((wrt (vM M b) p sec : Nat) : Int))) ∧ M' = M) := by
  obtain ⟨n0, n1, n2, a0, a1, a2, a3, a4, a5, a6, a7⟩ := nm_M hn
  obtain ⟨s1, s2⟩ := sh_M hs
  refine ct_191 rfl ?_
  refine aw_191_0 ?_
  exact L_writtenM b p M hp hn hW hs sec hsec (M.1 (b + 29) p).toNat 0 0 0 (by omega) (by omega) (by omega) (by decide) ⟨rfl, rfl⟩
