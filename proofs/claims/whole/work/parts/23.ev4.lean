theorem L_cf {post : Option AV → Mm → Prop} (e : Nat) (M : Mm) (hn : s_num (vE M e)) (hW : s_wok (vE M e)) (p : Nat) (hp : p < 4) (l : Int) (hl : -2147483648 ≤ l ∧ l < 2147483648) (hq : post (some (.inl ((s_fill (vE M e) p l : Nat) : Int))) M) : ∀ (n : Nat) (i : Nat), (((i : Nat) : Int) + ((n : Nat) : Int) = M.1 e 1) → en_AW 2 0 31 post 5 [some (.inr (.inr (1, 1, e))), some (.inl ((p : Nat) : Int)), some (.inl l), some (.inl ((s_cf (vE M e) p l i : Nat) : Int)), some (.inl ((i : Nat) : Int))] [] M 0 := by
  intro n
  induction n with
  | zero =>
    intro i hi
    obtain ⟨n0, n1, n2, a0, a1, a2, a3, a4, a5, a6, a7⟩ := nm_E hn
    have hb := s_cf_lt (p := p) (l := l) hW hn i (show ((i : Nat) : Int) ≤ M.1 e 1 by omega)
    refine aw_31_5 ?_
    refine br_ge_y (a := ((i : Nat) : Int)) (b := M.1 e 1) (by omega) (by omega) (by omega) ?_
    refine aw_31_62 ?_
    refine ⟨1, 0, by first | decide | omega, by first | decide | omega, en_Ct_eq (R_bitCount' ((s_cf (vE M e) p l i : Nat) : Int) (by omega) (by omega) _) ?_⟩
    have pb2 := s_pc_b (n := ((s_cf (vE M e) p l i : Nat) : Int).toNat)
    rw [show s_fill (vE M e) p l = s_pc (s_cf (vE M e) p l i) from congrArg (fun z => s_pc (s_cf (vE M e) p l z)) (show (M.1 e 1).toNat = i by omega)] at hq
    exact hq
  | succ n ih =>
    intro i hi
    obtain ⟨n0, n1, n2, a0, a1, a2, a3, a4, a5, a6, a7⟩ := nm_E hn
    obtain ⟨k1, k2, k3, k4, k5, k6, k7⟩ := wo_E (hW i (show ((i : Nat) : Int) < M.1 e 1 by omega))
    have hb := s_cf_lt (p := p) (l := l) hW hn i (show ((i : Nat) : Int) ≤ M.1 e 1 by omega)
    refine aw_31_5 ?_
    refine br_ge_n (a := ((i : Nat) : Int)) (b := M.1 e 1) (by omega) (by omega) (by omega) ?_
    refine ⟨i, rfl, (show i < 24 by omega), ?_⟩
    refine br_ne (a := M.1 (e + 3) i) (b := l) (by omega) (by omega) (fun q2 => ?_) (fun q2 => ?_)
    · refine aw_31_56 ?_
      refine en_AW_ls (congrArg (fun z_ : Int => ([some (.inr (.inr (1, 1, e))), some (.inl ((p : Nat) : Int)), some (.inl l), some (.inl z_), some (.inl (((i : Nat) : Int) + 1))] : AL)) (show ((s_cf (vE M e) p l i : Nat) : Int) = ((s_cf (vE M e) p l (i + 1) : Nat) : Int) from congrArg (fun z : Nat => (z : Int)) (s_cf_fE (by rintro ⟨z1, z2, z3⟩; contradiction)).symm)) ?_
      exact ih (i + 1) (by omega)
    · by_cases c3 : s_kn (vE M e) p i = true
      · refine ⟨1, 0, by first | decide | omega, by first | decide | omega, en_Ct_t (R_isKnown e p i _ (by omega) (by omega) (hW _ (show ((i : Nat) : Int) < M.1 e 1 by omega))) c3 ?_⟩
        refine br_eq_n (by decide) (by decide) (by decide) ?_
        by_cases c5 : s_bar (vE M e) i = true
        · refine ⟨1, 0, by first | decide | omega, by first | decide | omega, en_Ct_t (R_isBarred e i _ (by omega) (hW _ (show ((i : Nat) : Int) < M.1 e 1 by omega)) hn) c5 ?_⟩
          refine br_ne_y (by decide) (by decide) (by decide) ?_
          refine aw_31_56 ?_
          refine en_AW_ls (congrArg (fun z_ : Int => ([some (.inr (.inr (1, 1, e))), some (.inl ((p : Nat) : Int)), some (.inl l), some (.inl z_), some (.inl (((i : Nat) : Int) + 1))] : AL)) (show ((s_cf (vE M e) p l i : Nat) : Int) = ((s_cf (vE M e) p l (i + 1) : Nat) : Int) from congrArg (fun z : Nat => (z : Int)) (s_cf_fE (by rintro ⟨z1, z2, z3⟩; contradiction)).symm)) ?_
          exact ih (i + 1) (by omega)
        · refine ⟨1, 0, by first | decide | omega, by first | decide | omega, en_Ct_f (R_isBarred e i _ (by omega) (hW _ (show ((i : Nat) : Int) < M.1 e 1 by omega)) hn) c5 ?_⟩
          refine br_ne_n (by decide) (by decide) (by decide) ?_
          refine ⟨i, rfl, (show i < 24 by omega), ?_⟩
          refine aw_31_56 ?_
          refine en_AW_ls (congrArg (fun z_ : Int => ([some (.inr (.inr (1, 1, e))), some (.inl ((p : Nat) : Int)), some (.inl l), some (.inl z_), some (.inl (((i : Nat) : Int) + 1))] : AL)) (show en_or ((s_cf (vE M e) p l i : Nat) : Int) (en_shl 1 (M.1 (e + 4) i)) = ((s_cf (vE M e) p l (i + 1) : Nat) : Int) from by rw [nu_orset (by omega) (by omega) (by omega), s_cf_tE ‹_› ‹_› ‹_›])) ?_
          exact ih (i + 1) (by omega)
      · refine ⟨1, 0, by first | decide | omega, by first | decide | omega, en_Ct_f (R_isKnown e p i _ (by omega) (by omega) (hW _ (show ((i : Nat) : Int) < M.1 e 1 by omega))) c3 ?_⟩
        refine br_eq_y (by decide) (by decide) (by decide) ?_
        refine aw_31_56 ?_
        refine en_AW_ls (congrArg (fun z_ : Int => ([some (.inr (.inr (1, 1, e))), some (.inl ((p : Nat) : Int)), some (.inl l), some (.inl z_), some (.inl (((i : Nat) : Int) + 1))] : AL)) (show ((s_cf (vE M e) p l i : Nat) : Int) = ((s_cf (vE M e) p l (i + 1) : Nat) : Int) from congrArg (fun z : Nat => (z : Int)) (s_cf_fE (by rintro ⟨z1, z2, z3⟩; contradiction)).symm)) ?_
        exact ih (i + 1) (by omega)
theorem R_fill (e : Nat) (M : Mm) (hn : s_num (vE M e)) (hW : s_wok (vE M e)) (p : Nat) (hp : p < 4) (l : Int) (hl : -2147483648 ≤ l ∧ l < 2147483648) : en_Ct 2 0 31 [.inr (.inr (1, 1, e)), .inl ((p : Nat) : Int), .inl l] M (fun r M' => r = some (.inl (((s_fill (vE M e) p l : Nat) : Int))) ∧ M' = M) := by
  obtain ⟨n0, n1, n2, a0, a1, a2, a3, a4, a5, a6, a7⟩ := nm_E hn
  refine ct_31 rfl ?_
  refine aw_31_0 ?_
  exact L_cf e M hn hW p hp l hl ⟨rfl, rfl⟩ (M.1 e 1).toNat 0 (by omega)
theorem s_most_f {E : Ev} {p : Nat} {l : Int} : ∀ n i : Nat, i < n → i ≠ p → ¬ s_fill E i l < s_fill E p l → s_most E p l n = false
  | 0, _, h, _, _ => absurd h (Nat.not_lt_zero _)
  | n + 1, i, h, h1, h2 => by
    unfold s_most
    by_cases hi : i = n
    · subst hi
      simp [h1, h2]
    · rw [s_most_f n i (by omega) h1 h2]
      rfl
theorem s_most_t {E : Ev} {p : Nat} {l : Int} : ∀ n : Nat, (∀ i, i < n → i = p ∨ s_fill E i l < s_fill E p l) → s_most E p l n = true
  | 0, _ => rfl
  | n + 1, h => by
    unfold s_most
    rw [s_most_t n (fun i hi => h i (by omega))]
    rcases h n (by omega) with z | z
    · simp [z]
    · simp [z]
theorem L_most {post : Option AV → Mm → Prop} (e : Nat) (M : Mm) (hn : s_num (vE M e)) (hW : s_wok (vE M e)) (p : Nat) (hp : p < 4) (l : Int) (hl : -2147483648 ≤ l ∧ l < 2147483648) (hq : post (some (.inl (if s_most (vE M e) p l (M.1 e 2).toNat = true then 1 else 0))) M) : ∀ (n : Nat) (i : Nat), (((i : Nat) : Int) + ((n : Nat) : Int) = M.1 e 2) → (∀ j, j < i → j = p ∨ s_fill (vE M e) j l < s_fill (vE M e) p l) → en_AW 3 0 32 post 10 [some (.inr (.inr (1, 1, e))), some (.inl ((p : Nat) : Int)), some (.inl l), some (.inl ((s_fill (vE M e) p l : Nat) : Int)), some (.inl ((i : Nat) : Int))] [] M 0 := by
  intro n
  induction n with
  | zero =>
    intro i hi ha
    obtain ⟨n0, n1, n2, a0, a1, a2, a3, a4, a5, a6, a7⟩ := nm_E hn
    refine aw_32_10 ?_
    refine br_ge_y (a := ((i : Nat) : Int)) (b := M.1 e 2) (by omega) (by omega) (by omega) ?_
    refine aw_32_44 ?_
    rw [if_pos (by rw [show (M.1 e 2).toNat = i by omega]; exact s_most_t i ha)] at hq
    exact ⟨Or.inr rfl, hq⟩
  | succ n ih =>
    intro i hi ha
    obtain ⟨n0, n1, n2, a0, a1, a2, a3, a4, a5, a6, a7⟩ := nm_E hn
    have fb0 := s_fill_b (E := vE M e) (p := p) (l := l)
    refine aw_32_10 ?_
    refine br_ge_n (a := ((i : Nat) : Int)) (b := M.1 e 2) (by omega) (by omega) (by omega) ?_
    refine br_eq (a := ((i : Nat) : Int)) (b := ((p : Nat) : Int)) (by omega) (by omega) (fun q2 => ?_) (fun q2 => ?_)
    · refine aw_32_38 ?_
      exact ih (i + 1) (by omega) (fun j hj => (Nat.lt_succ_iff_lt_or_eq.mp hj).elim (ha j) (fun z => by subst z; omega))
    · refine ⟨2, 0, by first | decide | omega, by first | decide | omega, en_Ct_eq (R_fill e _ hn hW i (by omega) l (by omega)) ?_⟩
      have fb3 := s_fill_b (E := vE M e) (p := i) (l := l)
      refine br_lt (a := ((s_fill (vE M e) i l : Nat) : Int)) (b := ((s_fill (vE M e) p l : Nat) : Int)) (by omega) (by omega) (fun q4 => ?_) (fun q4 => ?_)
      · refine aw_32_38 ?_
        exact ih (i + 1) (by omega) (fun j hj => (Nat.lt_succ_iff_lt_or_eq.mp hj).elim (ha j) (fun z => by subst z; omega))
      · rw [if_neg (by rw [s_most_f (M.1 e 2).toNat i (by omega) (by omega) (by omega)]; decide)] at hq
        exact ⟨Or.inl rfl, hq⟩
theorem R_most (e : Nat) (M : Mm) (hn : s_num (vE M e)) (hW : s_wok (vE M e)) (p : Nat) (hp : p < 4) (l : Int) (hl : -2147483648 ≤ l ∧ l < 2147483648) : en_Ct 3 0 32 [.inr (.inr (1, 1, e)), .inl ((p : Nat) : Int), .inl l] M (fun r M' => r = some (.inl (if s_most (vE M e) p l (M.1 e 2).toNat = true then 1 else 0)) ∧ M' = M) := by
  obtain ⟨n0, n1, n2, a0, a1, a2, a3, a4, a5, a6, a7⟩ := nm_E hn
  refine ct_32 rfl ?_
  refine aw_32_0 ?_
  refine ⟨2, 0, by first | decide | omega, by first | decide | omega, en_Ct_eq (R_fill e _ hn hW p (by omega) l (by omega)) ?_⟩
  have fb1 := s_fill_b (E := vE M e) (p := p) (l := l)
  exact L_most e M hn hW p hp l hl ⟨rfl, rfl⟩ (M.1 e 2).toNat 0 (by omega) (fun j hj => absurd hj (Nat.not_lt_zero j))
theorem L_us {post : Option AV → Mm → Prop} (e : Nat) (M : Mm) (hn : s_num (vE M e)) (hW : s_wok (vE M e)) (hq : post (some (.inl ((s_us (vE M e) (M.1 e 1).toNat : Nat) : Int))) M) : ∀ (n : Nat) (i : Nat), (((i : Nat) : Int) + ((n : Nat) : Int) = M.1 e 1) → en_AW 1 0 35 post 4 [some (.inr (.inr (1, 1, e))), some (.inl ((s_us (vE M e) i : Nat) : Int)), some (.inl ((i : Nat) : Int))] [] M 0 := by
  intro n
  induction n with
  | zero =>
    intro i hi
    obtain ⟨n0, n1, n2, a0, a1, a2, a3, a4, a5, a6, a7⟩ := nm_E hn
    refine aw_35_4 ?_
    refine br_ge_y (a := ((i : Nat) : Int)) (b := M.1 e 1) (by omega) (by omega) (by omega) ?_
    refine aw_35_35 ?_
    rw [show (M.1 e 1).toNat = i by omega] at hq
    exact hq
  | succ n ih =>
    intro i hi
    obtain ⟨n0, n1, n2, a0, a1, a2, a3, a4, a5, a6, a7⟩ := nm_E hn
    obtain ⟨k1, k2, k3, k4, k5, k6, k7⟩ := wo_E (hW i (show ((i : Nat) : Int) < M.1 e 1 by omega))
    refine aw_35_4 ?_
    refine br_ge_n (a := ((i : Nat) : Int)) (b := M.1 e 1) (by omega) (by omega) (by omega) ?_
    refine ⟨i, rfl, (show i < 24 by omega), ?_⟩
    refine br_eq (a := M.1 (e + 8) i) (b := 0) (by omega) (by omega) (fun q2 => ?_) (fun q2 => ?_)
    · refine aw_35_26 ?_
      refine aw_35_27 ?_
      refine en_AW_ls (congrArg (fun z_ : Int => ([some (.inr (.inr (1, 1, e))), some (.inl z_), some (.inl (((i : Nat) : Int) + 1))] : AL)) (show ((s_us (vE M e) i : Nat) : Int) + 0 = ((s_us (vE M e) (i + 1) : Nat) : Int) from by rw [show s_us (vE M e) (i + 1) = s_us (vE M e) i + (if M.1 (e + 8) i = 0 then 0 else 1) from rfl, if_pos (by omega)]; omega)) ?_
      exact ih (i + 1) (by omega)
    · refine aw_35_27 ?_
      refine en_AW_ls (congrArg (fun z_ : Int => ([some (.inr (.inr (1, 1, e))), some (.inl z_), some (.inl (((i : Nat) : Int) + 1))] : AL)) (show ((s_us (vE M e) i : Nat) : Int) + 1 = ((s_us (vE M e) (i + 1) : Nat) : Int) from by rw [show s_us (vE M e) (i + 1) = s_us (vE M e) i + (if M.1 (e + 8) i = 0 then 0 else 1) from rfl, if_neg (by omega)]; omega)) ?_
      exact ih (i + 1) (by omega)
theorem R_us (e : Nat) (M : Mm) (hn : s_num (vE M e)) (hW : s_wok (vE M e)) : en_Ct 1 0 35 [.inr (.inr (1, 1, e))] M (fun r M' => r = some (.inl (((s_us (vE M e) (M.1 e 1).toNat : Nat) : Int))) ∧ M' = M) := by
  obtain ⟨n0, n1, n2, a0, a1, a2, a3, a4, a5, a6, a7⟩ := nm_E hn
  refine ct_35 rfl ?_
  refine aw_35_0 ?_
  exact L_us e M hn hW ⟨rfl, rfl⟩ (M.1 e 1).toNat 0 (by omega)
