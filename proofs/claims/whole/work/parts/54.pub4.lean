def s_em (E : Ev) : Nat → Nat
  | 0 => 0
  | n + 1 => if s_hm E n (E.1 0 2).toNat < s_hm E (s_em E n) (E.1 0 2).toNat then n else s_em E n
theorem s_em_1 {E : Ev} : s_em E 1 = 0 := by unfold s_em; split <;> rfl
theorem s_em_s {E : Ev} {n : Nat} : s_em E (n + 1) = if s_hm E n (E.1 0 2).toNat < s_hm E (s_em E n) (E.1 0 2).toNat then n else s_em E n := rfl
theorem s_em_lt {E : Ev} : ∀ n, s_em E n ≤ n
  | 0 => Nat.le_refl 0
  | n + 1 => by
    have := s_em_lt (E := E) n
    unfold s_em
    split <;> omega
theorem ev_em {E F : Ev} (h : evs E F) (hg : s_ok E) : ∀ n, s_em E n = s_em F n
  | 0 => rfl
  | n + 1 => by simp only [s_em]; rw [ev_em h hg n, ← ev_pp h, ev_hm h hg _ (ok_pp hg), ev_hm h hg _ (ok_pp hg)]
theorem L_emptyX {post : Option AV → Mm → Prop} (E : Ev) (M : Mm) (hI : isE M 1 E) (hO : isO M E) (hg : s_ok E) (hq : post (some (.inl ((s_em E (E.1 0 0).toNat : Nat) : Int))) M) : ∀ (n : Nat) (i : Nat), (1 ≤ i) → (((i : Nat) : Int) + ((n : Nat) : Int) = E.1 0 0) → en_AW 9 0 110 post 15 [some (.inr (.inr (1, 5, 0))), some (.inl ((s_em E i : Nat) : Int)), some (.inl ((i : Nat) : Int))] [] M 0 := by
  intro n
  induction n with
  | zero =>
    intro i hi1 hi
    obtain ⟨n0, n1, n2, a0, a1, a2, a3, a4, a5, a6, a7⟩ := hg.1
    have r0 : M.1 1 0 = E.1 0 0 := r0_I hI 0
    have r1 : M.1 1 1 = E.1 0 1 := r0_I hI 1
    have r2 : M.1 1 2 = E.1 0 2 := r0_I hI 2
    refine aw_110_15 ?_
    refine br_ge_y (a := ((i : Nat) : Int)) (b := M.1 1 0) (by omega) (by omega) (by omega) ?_
    refine aw_110_61 ?_
    rw [show (E.1 0 0).toNat = i by omega] at hq
    exact hq
  | succ n ih =>
    intro i hi1 hi
    obtain ⟨n0, n1, n2, a0, a1, a2, a3, a4, a5, a6, a7⟩ := hg.1
    have r0 : M.1 1 0 = E.1 0 0 := r0_I hI 0
    have r1 : M.1 1 1 = E.1 0 1 := r0_I hI 1
    have r2 : M.1 1 2 = E.1 0 2 := r0_I hI 2
    have hb := s_em_lt (E := E) i
    refine aw_110_15 ?_
    refine br_ge_n (a := ((i : Nat) : Int)) (b := M.1 1 0) (by omega) (by omega) (by omega) ?_
    refine ⟨1, 0, by first | decide | omega, by first | decide | omega, en_Ct_eq (R_hm' 1 E M hI hO hg ((i : Nat) : Int) (by omega) (by omega)) ?_⟩
    have hb2 := s_hm_le (E := E) (c := i) (E.1 0 2).toNat
    refine ⟨1, 0, by first | decide | omega, by first | decide | omega, en_Ct_eq (R_hm' 1 E M hI hO hg ((s_em E i : Nat) : Int) (by omega) (by omega)) ?_⟩
    have hb3 := s_hm_le (E := E) (c := (s_em E i)) (E.1 0 2).toNat
    refine br_ge (a := ((s_hm E i (E.1 0 2).toNat : Nat) : Int)) (b := ((s_hm E (s_em E i) (E.1 0 2).toNat : Nat) : Int)) (by omega) (by omega) (fun q4 => ?_) (fun q4 => ?_)
    · refine aw_110_55 ?_
      refine en_AW_ls (congrArg (fun z_ : Int => ([some (.inr (.inr (1, 5, 0))), some (.inl z_), some (.inl (((i : Nat) : Int) + 1))] : AL)) (show ((s_em E i : Nat) : Int) = ((s_em E (i + 1) : Nat) : Int) from congrArg (fun z : Nat => (z : Int)) (show s_em E i = s_em E (i + 1) from by rw [s_em_s]; exact (if_neg (by omega)).symm))) ?_
      exact ih (i + 1) (by omega) (by omega)
    · refine aw_110_55 ?_
      refine en_AW_ls (congrArg (fun z_ : Int => ([some (.inr (.inr (1, 5, 0))), some (.inl z_), some (.inl (((i : Nat) : Int) + 1))] : AL)) (show ((i : Nat) : Int) = ((s_em E (i + 1) : Nat) : Int) from congrArg (fun z : Nat => (z : Int)) (show i = s_em E (i + 1) from by rw [s_em_s]; exact (if_pos (by omega)).symm))) ?_
      exact ih (i + 1) (by omega) (by omega)
theorem col1_hm {E : Ev} (hg : s_ok E) {q c : Nat} (hq : q < 4) : (col1 E q (c : Int) = -1 ∧ s_hm E c (q + 1) = s_hm E c q) ∨ (col1 E q (c : Int) ≠ -1 ∧ s_hm E c (q + 1) = s_hm E c q + 1) := by
  rcases col1_cases hg (c := c) hq with h | ⟨v, h1, h2, h3, h4⟩
  · refine Or.inl ⟨h.1, ?_⟩
    rw [s_hm, h.2.1]
    rfl
  · refine Or.inr ⟨by omega, ?_⟩
    rw [s_hm, h4]
    rfl
theorem L_emptyM1 {post : Option AV → Mm → Prop} (E : Ev) (K : Mm) (hJ : isM K 84 E) (hK : isK K 84 E) (hg : s_ok E) (i : Nat) (hi : i < 5) (x y : Int) (hx : en_AW 9 0 210 post 65 [some (.inr (.inr (1, 6, 84))), some (.inl x), some (.inl y), some (.inl ((i : Nat) : Int)), some (.inl ((s_hm E i (E.1 0 2).toNat : Nat) : Int)), none] [] K 0) : ∀ (n : Nat) (j : Nat), (((j : Nat) : Int) + ((n : Nat) : Int) = E.1 0 2) → en_AW 9 0 210 post 24 [some (.inr (.inr (1, 6, 84))), some (.inl x), some (.inl y), some (.inl ((i : Nat) : Int)), some (.inl ((s_hm E i j : Nat) : Int)), some (.inl ((j : Nat) : Int))] [] K 0 := by
  intro n
  induction n with
  | zero =>
    intro j hj
    obtain ⟨n0, n1, n2, a0, a1, a2, a3, a4, a5, a6, a7⟩ := hg.1
    have r0 : K.1 84 9 = E.1 0 0 := hJ.1.1
    have r1 : K.1 84 10 = E.1 0 1 := hJ.1.2.1
    have r2 : K.1 84 18 = E.1 0 2 := hJ.1.2.2.1
    refine aw_210_24 ?_
    refine br_ge_y (a := ((j : Nat) : Int)) (b := K.1 84 18) (by omega) (by omega) (by omega) ?_
    refine en_AW_drop [true, true, true, true, true, false] ?_
    rw [show (E.1 0 2).toNat = j by omega] at hx
    exact hx
  | succ n ih =>
    intro j hj
    obtain ⟨n0, n1, n2, a0, a1, a2, a3, a4, a5, a6, a7⟩ := hg.1
    have r0 : K.1 84 9 = E.1 0 0 := hJ.1.1
    have r1 : K.1 84 10 = E.1 0 1 := hJ.1.2.1
    have r2 : K.1 84 18 = E.1 0 2 := hJ.1.2.2.1
    have hb := s_hm_le (E := E) (c := i) j
    refine aw_210_24 ?_
    refine br_ge_n (a := ((j : Nat) : Int)) (b := K.1 84 18) (by omega) (by omega) (by omega) ?_
    refine ⟨j, rfl, (show j < 4 by omega), ?_⟩
    refine ⟨1, 0, by first | decide | omega, by first | decide | omega, en_Ct_eq (V_col1 (b := 84) (E := E) (M := K) hJ hK hg (q := j) (by omega) (c := ((i : Nat) : Int)) (by omega)) ?_⟩
    have cb2 := col1_b (q := j) (c := ((i : Nat) : Int)) hg
    have ch3 := col1_hm hg (q := j) (c := i) (by omega)
    refine br_eq (a := col1 E j ((i : Nat) : Int)) (b := (-1)) (by omega) (by omega) (fun q4 => ?_) (fun q4 => ?_)
    · refine aw_210_55 ?_
      refine aw_210_56 ?_
      refine en_AW_ls (congrArg (fun z_ : Int => ([some (.inr (.inr (1, 6, 84))), some (.inl x), some (.inl y), some (.inl ((i : Nat) : Int)), some (.inl z_), some (.inl (((j : Nat) : Int) + 1))] : AL)) (show ((s_hm E i j : Nat) : Int) + 0 = ((s_hm E i (j + 1) : Nat) : Int) from by omega)) ?_
      exact ih (j + 1) (by omega)
    · refine aw_210_56 ?_
      refine en_AW_ls (congrArg (fun z_ : Int => ([some (.inr (.inr (1, 6, 84))), some (.inl x), some (.inl y), some (.inl ((i : Nat) : Int)), some (.inl z_), some (.inl (((j : Nat) : Int) + 1))] : AL)) (show ((s_hm E i j : Nat) : Int) + 1 = ((s_hm E i (j + 1) : Nat) : Int) from by omega)) ?_
      exact ih (j + 1) (by omega)
theorem L_emptyM {post : Option AV → Mm → Prop} (E : Ev) (K : Mm) (hJ : isM K 84 E) (hK : isK K 84 E) (hg : s_ok E) (hq : post (some (.inl ((s_em E (E.1 0 0).toNat : Nat) : Int))) K) : ∀ (n : Nat) (i : Nat) (x : Int) (y : Int), (((i : Nat) : Int) + ((n : Nat) : Int) = E.1 0 0) → ((i = 0 ∧ x = -1) ∨ (1 ≤ i ∧ x = ((s_em E i : Nat) : Int) ∧ y = ((s_hm E (s_em E i) (E.1 0 2).toNat : Nat) : Int))) → en_AW 9 0 210 post 10 [some (.inr (.inr (1, 6, 84))), some (.inl x), some (.inl y), some (.inl ((i : Nat) : Int)), none, none] [] K 0 := by
  intro n
  induction n with
  | zero =>
    intro i x y hi hz
    obtain ⟨n0, n1, n2, a0, a1, a2, a3, a4, a5, a6, a7⟩ := hg.1
    have r0 : K.1 84 9 = E.1 0 0 := hJ.1.1
    have r1 : K.1 84 10 = E.1 0 1 := hJ.1.2.1
    have r2 : K.1 84 18 = E.1 0 2 := hJ.1.2.2.1
    refine aw_210_10 ?_
    refine br_ge_y (a := ((i : Nat) : Int)) (b := K.1 84 9) (by omega) (by omega) (by omega) ?_
    refine aw_210_87 ?_
    rw [show (E.1 0 0).toNat = i by omega] at hq
    rcases hz with hz | hz
    · omega
    · rw [hz.2.1]
      exact hq
  | succ n ih =>
    intro i x y hi hz
    obtain ⟨n0, n1, n2, a0, a1, a2, a3, a4, a5, a6, a7⟩ := hg.1
    have r0 : K.1 84 9 = E.1 0 0 := hJ.1.1
    have r1 : K.1 84 10 = E.1 0 1 := hJ.1.2.1
    have r2 : K.1 84 18 = E.1 0 2 := hJ.1.2.2.1
    have hb := s_em_lt (E := E) i
    have hh := s_hm_le (E := E) (c := i) (E.1 0 2).toNat
    have hh2 := s_hm_le (E := E) (c := s_em E i) (E.1 0 2).toNat
    have hxr : -1 ≤ x ∧ x ≤ 5 := by omega
    refine aw_210_10 ?_
    refine br_ge_n (a := ((i : Nat) : Int)) (b := K.1 84 9) (by omega) (by omega) (by omega) ?_
    refine L_emptyM1 E K hJ hK hg i (by omega) x y ?_ (E.1 0 2).toNat 0 (by omega)
    refine aw_210_65 ?_
    refine br_eq (a := x) (b := (-1)) (by omega) (by omega) (fun q1 => ?_) (fun q1 => ?_)
    · refine aw_210_76 ?_
      refine aw_210_81 ?_
      refine en_AW_drop [true, true, true, true, false, false] ?_
      refine ih (i + 1) _ _ (by omega) (Or.inr ⟨by omega, ?_⟩)
      rcases hz with hz | hz
      · obtain ⟨rfl, -⟩ := hz
        rw [s_em_1]
        exact ⟨rfl, rfl⟩
      · rw [s_em_s, if_pos (by omega)]
        exact ⟨rfl, rfl⟩
    · refine br_ge (a := ((s_hm E i (E.1 0 2).toNat : Nat) : Int)) (b := y) (by omega) (by omega) (fun q2 => ?_) (fun q2 => ?_)
      · refine aw_210_81 ?_
        refine en_AW_drop [true, true, true, true, false, false] ?_
        exact ih (i + 1) _ _ (by omega) (Or.inr ⟨by omega, by rw [s_em_s, if_neg (by omega)]; omega, by rw [s_em_s, if_neg (by omega)]; omega⟩)
      · refine aw_210_76 ?_
        refine aw_210_81 ?_
        refine en_AW_drop [true, true, true, true, false, false] ?_
        refine ih (i + 1) _ _ (by omega) (Or.inr ⟨by omega, ?_⟩)
        rcases hz with hz | hz
        · obtain ⟨rfl, -⟩ := hz
          rw [s_em_1]
          exact ⟨rfl, rfl⟩
        · rw [s_em_s, if_pos (by omega)]
          exact ⟨rfl, rfl⟩
def a_empty (E : Ev)  : Nat × Int := (0, ((s_em E (E.1 0 0).toNat : Nat) : Int))
theorem PX_empty (E : Ev) (M : Mm) (hI : isE M 1 E) (hg : s_ok E)   : en_Ct 9 0 110 [.inr (.inr (1, 5, 0))] M (fun r M' => r = some (.inl (a_empty E ).2) ∧ sX (aX M (a_empty E ).1) M') := by
  obtain ⟨n0, n1, n2, a0, a1, a2, a3, a4, a5, a6, a7⟩ := hg.1
  have r0 : M.1 1 0 = E.1 0 0 := r0_I hI 0
  have r1 : M.1 1 1 = E.1 0 1 := r0_I hI 1
  have r2 : M.1 1 2 = E.1 0 2 := r0_I hI 2
  refine ct_110 rfl ?_
  refine aw_110_0 ?_
  refine ⟨4, 0, by first | decide | omega, by first | decide | omega, en_Ct_mono (R_reckon 1 E M hI hg (by omega)) ?_⟩
  rintro _ K1 ⟨rfl, hf, hO⟩
  replace hI := isE_o hI hf (Or.inl (by omega))
  refine en_AW_ls (congrArg (fun z_ : Int => ([some (.inr (.inr (1, 5, 0))), some (.inl z_), some (.inl 1)] : AL)) (show (0 : Int) = ((s_em E 1 : Nat) : Int) from by rw [s_em_1]; rfl)) ?_
  refine L_emptyX E K1 hI hO hg ?_ ((E.1 0 0).toNat - 1) 1 (by omega) (by omega)
  have ha : a_empty E  = (0, ((s_em E (E.1 0 0).toNat : Nat) : Int)) := by
    unfold a_empty
    repeat first | rw [if_pos (by omega)] | rw [if_neg (by omega)]
    first | done | rfl | (rfl)
  rw [ha]
  exact ⟨rfl, sX_fr hf (by decide) (by decide)⟩
theorem PM_empty (E : Ev) (M : Mm) (hJ : isM M 84 E) (hg : s_ok E)   : en_Ct 9 0 210 [.inr (.inr (1, 6, 84))] M (fun r M' => r = some (.inl (a_empty E ).2) ∧ sM (aM M (a_empty E ).1) M') := by
  obtain ⟨n0, n1, n2, a0, a1, a2, a3, a4, a5, a6, a7⟩ := hg.1
  have r0 : M.1 84 9 = E.1 0 0 := hJ.1.1
  have r1 : M.1 84 10 = E.1 0 1 := hJ.1.2.1
  have r2 : M.1 84 18 = E.1 0 2 := hJ.1.2.2.1
  refine ct_210 rfl ?_
  refine aw_210_0 ?_
  refine ⟨5, 0, by first | decide | omega, by first | decide | omega, en_Ct_mono (R_findKept 84 E M hJ hg) ?_⟩
  rintro _ K1 ⟨rfl, hf, hK⟩
  replace hJ := isM_k hJ hf
  refine L_emptyM E K1 hJ hK hg ?_ (E.1 0 0).toNat 0 (-1) 0 (by omega) (Or.inl ⟨rfl, rfl⟩)
  have ha : a_empty E  = (0, ((s_em E (E.1 0 0).toNat : Nat) : Int)) := by
    unfold a_empty
    repeat first | rw [if_pos (by omega)] | rw [if_neg (by omega)]
    first | done | rfl | (rfl)
  rw [ha]
  exact ⟨rfl, sM_fr hf (by decide) (by decide)⟩
theorem ea_empty {E F : Ev} (h : evs E F) (hg : s_ok E)  : a_empty E  = a_empty F  := by
  have hb := hg.1.2.2.1
  have hw := hg.1.2.1
  unfold a_empty
  rw [ev_em h hg, h.1 0 (by decide)]
