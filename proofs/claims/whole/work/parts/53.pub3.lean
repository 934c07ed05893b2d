def s_ln (E : Ev) (l : Int) : Nat → Nat
  | 0 => 0
  | n + 1 => if E.1 3 n = l ∧ s_pc (E.1 7 n).toNat = 1 then s_ln E l n ||| 2 ^ n else s_ln E l n
theorem s_ln_lt {E : Ev} {l : Int} : ∀ n, n ≤ 24 → s_ln E l n < 2 ^ 24
  | 0, _ => by simp [s_ln]
  | n + 1, h => by
    have ih := s_ln_lt (E := E) (l := l) n (by omega)
    unfold s_ln
    split
    · exact nu_orlt ih (by omega)
    · exact ih
theorem ev_ln {E F : Ev} (h : evs E F) {l : Int} : ∀ n, n ≤ 24 → s_ln E l n = s_ln F l n
  | 0, _ => rfl
  | n + 1, hn => by simp only [s_ln]; rw [ev_ln h n (by omega), ev_r h 3 (by decide) (by decide) (show n < 24 by omega), ev_r h 7 (by decide) (by decide) (show n < 24 by omega)]
theorem nu_orset' {b i : Nat} (hb : b < 2 ^ 31) (hi : i < 31) : en_or (b : Int) (en_shl 1 (i : Int)) = ((b ||| 2 ^ i : Nat) : Int) := nu_orset hb (by omega) (by omega)
theorem L_lonelyX {post : Option AV → Mm → Prop} (E : Ev) (M : Mm) (hI : isE M 1 E) (hg : s_ok E) (l : Int) (hl : -2147483648 ≤ l ∧ l < 2147483648) (hq : post (some (.inl ((s_ln E l (E.1 0 1).toNat : Nat) : Int))) M) : ∀ (n : Nat) (i : Nat), (((i : Nat) : Int) + ((n : Nat) : Int) = E.1 0 1) → en_AW 9 0 98 post 18 [some (.inr (.inr (1, 5, 0))), some (.inl l), some (.inl ((s_ln E l i : Nat) : Int)), some (.inl ((i : Nat) : Int))] [] M 0 := by
  intro n
  induction n with
  | zero =>
    intro i hi
    obtain ⟨n0, n1, n2, a0, a1, a2, a3, a4, a5, a6, a7⟩ := hg.1
    have r0 : M.1 1 0 = E.1 0 0 := r0_I hI 0
    have r1 : M.1 1 1 = E.1 0 1 := r0_I hI 1
    have r2 : M.1 1 2 = E.1 0 2 := r0_I hI 2
    refine aw_98_18 ?_
    refine br_ge_y (a := ((i : Nat) : Int)) (b := M.1 1 1) (by omega) (by omega) (by omega) ?_
    refine aw_98_70 ?_
    rw [show (E.1 0 1).toNat = i by omega] at hq
    exact hq
  | succ n ih =>
    intro i hi
    obtain ⟨n0, n1, n2, a0, a1, a2, a3, a4, a5, a6, a7⟩ := hg.1
    have r0 : M.1 1 0 = E.1 0 0 := r0_I hI 0
    have r1 : M.1 1 1 = E.1 0 1 := r0_I hI 1
    have r2 : M.1 1 2 = E.1 0 2 := r0_I hI 2
    have e3 : M.1 4 i = E.1 3 i := congrFun (hI.1 3 (by decide)) i
    have e7 : M.1 8 i = E.1 7 i := congrFun (hI.1 7 (by decide)) i
    obtain ⟨k1, k2, k3, k4, k5, k6, k7⟩ := hg.2.1 i (by omega)
    have hb := s_ln_lt (E := E) (l := l) i (by omega)
    refine aw_98_18 ?_
    refine br_ge_n (a := ((i : Nat) : Int)) (b := M.1 1 1) (by omega) (by omega) (by omega) ?_
    refine ⟨i, rfl, (show i < 24 by omega), ?_⟩
    refine br_ne (a := M.1 4 i) (b := l) (by omega) (by omega) (fun q2 => ?_) (fun q2 => ?_)
    · refine aw_98_64 ?_
      refine en_AW_ls (congrArg (fun z_ : Int => ([some (.inr (.inr (1, 5, 0))), some (.inl l), some (.inl z_), some (.inl (((i : Nat) : Int) + 1))] : AL)) (show ((s_ln E l i : Nat) : Int) = ((s_ln E l (i + 1) : Nat) : Int) from by rw [s_ln, if_neg (by rw [← e7]; omega)])) ?_
      exact ih (i + 1) (by omega)
    · refine ⟨i, rfl, (show i < 24 by omega), ?_⟩
      refine ⟨1, 0, by first | decide | omega, by first | decide | omega, en_Ct_eq (R_bitCount' (M.1 8 i) (by omega) (by omega) _) ?_⟩
      have pb3 := s_pc_b (n := ((M.1 8 i).toNat))
      refine br_ne (a := ((s_pc ((M.1 8 i).toNat) : Nat) : Int)) (b := 1) (by omega) (by omega) (fun q4 => ?_) (fun q4 => ?_)
      · refine aw_98_64 ?_
        refine en_AW_ls (congrArg (fun z_ : Int => ([some (.inr (.inr (1, 5, 0))), some (.inl l), some (.inl z_), some (.inl (((i : Nat) : Int) + 1))] : AL)) (show ((s_ln E l i : Nat) : Int) = ((s_ln E l (i + 1) : Nat) : Int) from by rw [s_ln, if_neg (by rw [← e7]; omega)])) ?_
        exact ih (i + 1) (by omega)
      · refine aw_98_64 ?_
        refine en_AW_ls (congrArg (fun z_ : Int => ([some (.inr (.inr (1, 5, 0))), some (.inl l), some (.inl z_), some (.inl (((i : Nat) : Int) + 1))] : AL)) (show en_or ((s_ln E l i : Nat) : Int) (en_shl 1 ((i : Nat) : Int)) = ((s_ln E l (i + 1) : Nat) : Int) from by rw [nu_orset' (by omega) (by omega), s_ln, if_pos ⟨by omega, by rw [← e7]; omega⟩])) ?_
        exact ih (i + 1) (by omega)
theorem L_lonelyM {post : Option AV → Mm → Prop} (E : Ev) (M : Mm) (hJ : isM M 84 E) (hg : s_ok E) (l : Int) (hl : -2147483648 ≤ l ∧ l < 2147483648) (hq : post (some (.inl ((s_ln E l (E.1 0 1).toNat : Nat) : Int))) M) : ∀ (n : Nat) (i : Nat), (((i : Nat) : Int) + ((n : Nat) : Int) = E.1 0 1) → en_AW 9 0 222 post 23 [some (.inr (.inr (1, 6, 84))), some (.inl l), some (.inl ((s_ln E l i : Nat) : Int)), some (.inl ((i : Nat) : Int))] [] M 0 := by
  intro n
  induction n with
  | zero =>
    intro i hi
    obtain ⟨n0, n1, n2, a0, a1, a2, a3, a4, a5, a6, a7⟩ := hg.1
    have r0 : M.1 84 9 = E.1 0 0 := hJ.1.1
    have r1 : M.1 84 10 = E.1 0 1 := hJ.1.2.1
    have r2 : M.1 84 18 = E.1 0 2 := hJ.1.2.2.1
    refine aw_222_23 ?_
    refine br_ge_y (a := ((i : Nat) : Int)) (b := M.1 84 10) (by omega) (by omega) (by omega) ?_
    refine aw_222_70 ?_
    rw [show (E.1 0 1).toNat = i by omega] at hq
    exact hq
  | succ n ih =>
    intro i hi
    obtain ⟨n0, n1, n2, a0, a1, a2, a3, a4, a5, a6, a7⟩ := hg.1
    have r0 : M.1 84 9 = E.1 0 0 := hJ.1.1
    have r1 : M.1 84 10 = E.1 0 1 := hJ.1.2.1
    have r2 : M.1 84 18 = E.1 0 2 := hJ.1.2.2.1
    have e3 : M.1 102 i = E.1 3 i := congrFun (hJ.2.1.2.2.2 3 (by decide) (by decide)) i
    have e7 : M.1 106 i = E.1 7 i := congrFun (hJ.2.1.2.2.2 7 (by decide) (by decide)) i
    obtain ⟨k1, k2, k3, k4, k5, k6, k7⟩ := hg.2.1 i (by omega)
    have hb := s_ln_lt (E := E) (l := l) i (by omega)
    refine aw_222_23 ?_
    refine br_ge_n (a := ((i : Nat) : Int)) (b := M.1 84 10) (by omega) (by omega) (by omega) ?_
    refine ⟨i, rfl, (show i < 24 by omega), ?_⟩
    refine br_ne (a := M.1 102 i) (b := l) (by omega) (by omega) (fun q2 => ?_) (fun q2 => ?_)
    · refine aw_222_61 ?_
      refine aw_222_62 ?_
      refine en_AW_ls (congrArg (fun z_ : Int => ([some (.inr (.inr (1, 6, 84))), some (.inl l), some (.inl z_), some (.inl (((i : Nat) : Int) + 1))] : AL)) (show en_or ((s_ln E l i : Nat) : Int) 0 = ((s_ln E l (i + 1) : Nat) : Int) from by rw [nu_or0 (by omega)]; rw [s_ln, if_neg (by rw [← e7]; omega)])) ?_
      exact ih (i + 1) (by omega)
    · refine ⟨i, rfl, (show i < 24 by omega), ?_⟩
      refine ⟨1, 0, by first | decide | omega, by first | decide | omega, en_Ct_eq (R_bits' (M.1 106 i) (by omega) (by omega) _) ?_⟩
      have pb3 := s_pc_b (n := ((M.1 106 i).toNat))
      refine br_ne (a := ((s_pc ((M.1 106 i).toNat) : Nat) : Int)) (b := 1) (by omega) (by omega) (fun q4 => ?_) (fun q4 => ?_)
      · refine aw_222_61 ?_
        refine aw_222_62 ?_
        refine en_AW_ls (congrArg (fun z_ : Int => ([some (.inr (.inr (1, 6, 84))), some (.inl l), some (.inl z_), some (.inl (((i : Nat) : Int) + 1))] : AL)) (show en_or ((s_ln E l i : Nat) : Int) 0 = ((s_ln E l (i + 1) : Nat) : Int) from by rw [nu_or0 (by omega)]; rw [s_ln, if_neg (by rw [← e7]; omega)])) ?_
        exact ih (i + 1) (by omega)
      · refine aw_222_62 ?_
        refine en_AW_ls (congrArg (fun z_ : Int => ([some (.inr (.inr (1, 6, 84))), some (.inl l), some (.inl z_), some (.inl (((i : Nat) : Int) + 1))] : AL)) (show en_or ((s_ln E l i : Nat) : Int) (en_shl 1 ((i : Nat) : Int)) = ((s_ln E l (i + 1) : Nat) : Int) from by rw [nu_orset' (by omega) (by omega), s_ln, if_pos ⟨by omega, by rw [← e7]; omega⟩])) ?_
        exact ih (i + 1) (by omega)
def a_lonely (E : Ev) (l : Int) : Nat × Int := if 0 ≤ l ∧ l ≤ 25 then (0, ((s_ln E l (E.1 0 1).toNat : Nat) : Int)) else (1, -2)
theorem PX_lonely (E : Ev) (M : Mm) (hI : isE M 1 E) (hg : s_ok E) (l : Int) (hl : -2147483648 ≤ l ∧ l < 2147483648) : en_Ct 9 0 98 [.inr (.inr (1, 5, 0)), .inl l] M (fun r M' => r = some (.inl (a_lonely E l).2) ∧ sX (aX M (a_lonely E l).1) M') := by
  obtain ⟨n0, n1, n2, a0, a1, a2, a3, a4, a5, a6, a7⟩ := hg.1
  have r0 : M.1 1 0 = E.1 0 0 := r0_I hI 0
  have r1 : M.1 1 1 = E.1 0 1 := r0_I hI 1
  have r2 : M.1 1 2 = E.1 0 2 := r0_I hI 2
  refine ct_98 rfl ?_
  refine aw_98_0 ?_
  by_cases c1 : 0 ≤ l ∧ l ≤ 25
  · refine ⟨2, 0, by first | decide | omega, by first | decide | omega, en_Ct_t (R_isLetter l (by omega) _) c1 ?_⟩
    refine br_ne_y (by decide) (by decide) (by decide) ?_
    refine aw_98_14 ?_
    refine L_lonelyX E M hI hg l hl ?_ (E.1 0 1).toNat 0 (by omega)
    have ha : a_lonely E l = (0, ((s_ln E l (E.1 0 1).toNat : Nat) : Int)) := by
      unfold a_lonely
      repeat first | rw [if_pos (by omega)] | rw [if_neg (by omega)]
      first | done | rfl | (rfl)
    rw [ha]
    exact ⟨rfl, sX_rfl⟩
  · refine ⟨2, 0, by first | decide | omega, by first | decide | omega, en_Ct_f (R_isLetter l (by omega) _) c1 ?_⟩
    refine br_ne_n (by decide) (by decide) (by decide) ?_
    refine ⟨2, 0, by first | decide | omega, by first | decide | omega, en_Ct_eq (R_refX (-2) (by omega) M) ?_⟩
    have ha : a_lonely E l = (1, (-2)) := by
      unfold a_lonely
      repeat first | rw [if_pos (by omega)] | rw [if_neg (by omega)]
      first | done | rfl | (rfl)
    rw [ha]
    exact ⟨rfl, sX_rfl⟩
theorem PM_lonely (E : Ev) (M : Mm) (hJ : isM M 84 E) (hg : s_ok E) (l : Int) (hl : -2147483648 ≤ l ∧ l < 2147483648) : en_Ct 9 0 222 [.inr (.inr (1, 6, 84)), .inl l] M (fun r M' => r = some (.inl (a_lonely E l).2) ∧ sM (aM M (a_lonely E l).1) M') := by
  obtain ⟨n0, n1, n2, a0, a1, a2, a3, a4, a5, a6, a7⟩ := hg.1
  have r0 : M.1 84 9 = E.1 0 0 := hJ.1.1
  have r1 : M.1 84 10 = E.1 0 1 := hJ.1.2.1
  have r2 : M.1 84 18 = E.1 0 2 := hJ.1.2.2.1
  refine ct_222 rfl ?_
  refine aw_222_0 ?_
  by_cases c1 : 0 ≤ l ∧ l ≤ 25
  · refine ⟨1, 0, by first | decide | omega, by first | decide | omega, en_Ct_t (R_in (en_wr l) 0 25 l 0 25 (wl_wr ⟨by omega, by omega⟩) (wl_of ⟨by omega, by omega⟩) (wl_of ⟨by omega, by omega⟩) _) c1 ?_⟩
    refine br_ne_y (by decide) (by decide) (by decide) ?_
    refine aw_222_19 ?_
    refine L_lonelyM E M hJ hg l hl ?_ (E.1 0 1).toNat 0 (by omega)
    have ha : a_lonely E l = (0, ((s_ln E l (E.1 0 1).toNat : Nat) : Int)) := by
      unfold a_lonely
      repeat first | rw [if_pos (by omega)] | rw [if_neg (by omega)]
      first | done | rfl | (rfl)
    rw [ha]
    exact ⟨rfl, sM_rfl⟩
  · refine ⟨1, 0, by first | decide | omega, by first | decide | omega, en_Ct_f (R_in (en_wr l) 0 25 l 0 25 (wl_wr ⟨by omega, by omega⟩) (wl_of ⟨by omega, by omega⟩) (wl_of ⟨by omega, by omega⟩) _) c1 ?_⟩
    refine br_ne_n (by decide) (by decide) (by decide) ?_
    refine ⟨1, 0, by first | decide | omega, by first | decide | omega, en_Ct_eq (R_refM (-2) (by omega) M) ?_⟩
    have ha : a_lonely E l = (1, (-2)) := by
      unfold a_lonely
      repeat first | rw [if_pos (by omega)] | rw [if_neg (by omega)]
      first | done | rfl | (rfl)
    rw [ha]
    exact ⟨rfl, sM_rfl⟩
theorem ea_lonely {E F : Ev} (h : evs E F) (hg : s_ok E) {l : Int} : a_lonely E l = a_lonely F l := by
  have hb := hg.1.2.2.1
  have hw := hg.1.2.1
  unfold a_lonely
  rw [← ev_ww h, ev_ln h _ (ok_ww hg)]
def s_gn (E : Ev) (l : Int) : Nat → Nat
  | 0 => 0
  | n + 1 => if s_fill E (s_gn E l n) l < s_fill E n l then n else s_gn E l n
theorem s_gn_1 {E : Ev} {l : Int} : s_gn E l 1 = 0 := by unfold s_gn; split <;> rfl
theorem s_gn_s {E : Ev} {l : Int} {n : Nat} : s_gn E l (n + 1) = if s_fill E (s_gn E l n) l < s_fill E n l then n else s_gn E l n := rfl
theorem s_gn_lt {E : Ev} {l : Int} : ∀ n, s_gn E l n ≤ n
  | 0 => Nat.le_refl 0
  | n + 1 => by
    have := s_gn_lt (E := E) (l := l) n
    unfold s_gn
    split <;> omega
theorem ev_gn {E F : Ev} (h : evs E F) (hg : s_ok E) {l : Int} : ∀ n, s_gn E l n = s_gn F l n
  | 0 => rfl
  | n + 1 => by simp only [s_gn]; rw [ev_gn h hg n, ev_fill h hg, ev_fill h hg]
theorem L_gainsX {post : Option AV → Mm → Prop} (E : Ev) (M : Mm) (hI : isE M 1 E) (hg : s_ok E) (l : Int) (hl : -2147483648 ≤ l ∧ l < 2147483648) (hq : post (some (.inl ((s_gn E l (E.1 0 2).toNat : Nat) : Int))) M) : ∀ (n : Nat) (i : Nat), (1 ≤ i) → (((i : Nat) : Int) + ((n : Nat) : Int) = E.1 0 2) → en_AW 9 0 100 post 35 [some (.inr (.inr (1, 5, 0))), some (.inl l), some (.inl ((s_gn E l i : Nat) : Int)), some (.inl ((i : Nat) : Int))] [] M 0 := by
  intro n
  induction n with
  | zero =>
    intro i hi1 hi
    obtain ⟨n0, n1, n2, a0, a1, a2, a3, a4, a5, a6, a7⟩ := hg.1
    have r0 : M.1 1 0 = E.1 0 0 := r0_I hI 0
    have r1 : M.1 1 1 = E.1 0 1 := r0_I hI 1
    have r2 : M.1 1 2 = E.1 0 2 := r0_I hI 2
    refine aw_100_35 ?_
    refine br_ge_y (a := ((i : Nat) : Int)) (b := M.1 1 2) (by omega) (by omega) (by omega) ?_
    refine aw_100_75 ?_
    rw [show (E.1 0 2).toNat = i by omega] at hq
    exact hq
  | succ n ih =>
    intro i hi1 hi
    obtain ⟨n0, n1, n2, a0, a1, a2, a3, a4, a5, a6, a7⟩ := hg.1
    have r0 : M.1 1 0 = E.1 0 0 := r0_I hI 0
    have r1 : M.1 1 1 = E.1 0 1 := r0_I hI 1
    have r2 : M.1 1 2 = E.1 0 2 := r0_I hI 2
    have hb := s_gn_lt (E := E) (l := l) i
    have hc : s_gn E l i < 4 := by omega
    refine aw_100_35 ?_
    refine br_ge_n (a := ((i : Nat) : Int)) (b := M.1 1 2) (by omega) (by omega) (by omega) ?_
    refine ⟨2, 0, by first | decide | omega, by first | decide | omega, en_Ct_eq (X_fill (M := M) (e := 1) (E := E) hI hg (x := ((i : Nat) : Int)) (by omega) (by omega) (l := l) (by omega)) ?_⟩
    have fb2 := s_fill_b (E := E) (p := i) (l := l)
    refine ⟨2, 0, by first | decide | omega, by first | decide | omega, en_Ct_eq (X_fill (M := M) (e := 1) (E := E) hI hg (x := ((s_gn E l i : Nat) : Int)) (by omega) (by omega) (l := l) (by omega)) ?_⟩
    have fb3 := s_fill_b (E := E) (p := (s_gn E l i)) (l := l)
    refine br_le (a := ((s_fill E i l : Nat) : Int)) (b := ((s_fill E (s_gn E l i) l : Nat) : Int)) (by omega) (by omega) (fun q4 => ?_) (fun q4 => ?_)
    · refine aw_100_69 ?_
      refine en_AW_ls (congrArg (fun z_ : Int => ([some (.inr (.inr (1, 5, 0))), some (.inl l), some (.inl z_), some (.inl (((i : Nat) : Int) + 1))] : AL)) (show ((s_gn E l i : Nat) : Int) = ((s_gn E l (i + 1) : Nat) : Int) from congrArg (fun z : Nat => (z : Int)) (show s_gn E l i = s_gn E l (i + 1) from by rw [s_gn_s]; exact (if_neg (by omega)).symm))) ?_
      exact ih (i + 1) (by omega) (by omega)
    · refine aw_100_69 ?_
      refine en_AW_ls (congrArg (fun z_ : Int => ([some (.inr (.inr (1, 5, 0))), some (.inl l), some (.inl z_), some (.inl (((i : Nat) : Int) + 1))] : AL)) (show ((i : Nat) : Int) = ((s_gn E l (i + 1) : Nat) : Int) from congrArg (fun z : Nat => (z : Int)) (show i = s_gn E l (i + 1) from by rw [s_gn_s]; exact (if_pos (by omega)).symm))) ?_
      exact ih (i + 1) (by omega) (by omega)
theorem L_gainsM {post : Option AV → Mm → Prop} (E : Ev) (M : Mm) (hJ : isM M 84 E) (hg : s_ok E) (l : Int) (hl : -2147483648 ≤ l ∧ l < 2147483648) (hq : post (some (.inl ((s_gn E l (E.1 0 2).toNat : Nat) : Int))) M) : ∀ (n : Nat) (i : Nat), (1 ≤ i) → (((i : Nat) : Int) + ((n : Nat) : Int) = E.1 0 2) → en_AW 9 0 225 post 37 [some (.inr (.inr (1, 6, 84))), some (.inl l), some (.inl ((s_gn E l i : Nat) : Int)), some (.inl ((i : Nat) : Int))] [] M 0 := by
  intro n
  induction n with
  | zero =>
    intro i hi1 hi
    obtain ⟨n0, n1, n2, a0, a1, a2, a3, a4, a5, a6, a7⟩ := hg.1
    have r0 : M.1 84 9 = E.1 0 0 := hJ.1.1
    have r1 : M.1 84 10 = E.1 0 1 := hJ.1.2.1
    have r2 : M.1 84 18 = E.1 0 2 := hJ.1.2.2.1
    refine aw_225_37 ?_
    refine br_ge_y (a := ((i : Nat) : Int)) (b := M.1 84 18) (by omega) (by omega) (by omega) ?_
    refine aw_225_72 ?_
    rw [show (E.1 0 2).toNat = i by omega] at hq
    exact hq
  | succ n ih =>
    intro i hi1 hi
    obtain ⟨n0, n1, n2, a0, a1, a2, a3, a4, a5, a6, a7⟩ := hg.1
    have r0 : M.1 84 9 = E.1 0 0 := hJ.1.1
    have r1 : M.1 84 10 = E.1 0 1 := hJ.1.2.1
    have r2 : M.1 84 18 = E.1 0 2 := hJ.1.2.2.1
    have hb := s_gn_lt (E := E) (l := l) i
    have hc : s_gn E l i < 4 := by omega
    refine aw_225_37 ?_
    refine br_ge_n (a := ((i : Nat) : Int)) (b := M.1 84 18) (by omega) (by omega) (by omega) ?_
    refine ⟨2, 0, by first | decide | omega, by first | decide | omega, en_Ct_eq (M_fill (M := M) (E := E) hJ hg (x := ((i : Nat) : Int)) (by omega) (by omega) (l := l) (by omega)) ?_⟩
    have fb2 := s_fill_b (E := E) (p := i) (l := l)
    refine ⟨2, 0, by first | decide | omega, by first | decide | omega, en_Ct_eq (M_fill (M := M) (E := E) hJ hg (x := ((s_gn E l i : Nat) : Int)) (by omega) (by omega) (l := l) (by omega)) ?_⟩
    have fb3 := s_fill_b (E := E) (p := (s_gn E l i)) (l := l)
    refine br_le (a := ((s_fill E i l : Nat) : Int)) (b := ((s_fill E (s_gn E l i) l : Nat) : Int)) (by omega) (by omega) (fun q4 => ?_) (fun q4 => ?_)
    · refine aw_225_64 ?_
      refine aw_225_65 ?_
      refine en_AW_ls (congrArg (fun z_ : Int => ([some (.inr (.inr (1, 6, 84))), some (.inl l), some (.inl z_), some (.inl (((i : Nat) : Int) + 1))] : AL)) (show ((s_gn E l i : Nat) : Int) = ((s_gn E l (i + 1) : Nat) : Int) from congrArg (fun z : Nat => (z : Int)) (show s_gn E l i = s_gn E l (i + 1) from by rw [s_gn_s]; exact (if_neg (by omega)).symm))) ?_
      exact ih (i + 1) (by omega) (by omega)
    · refine aw_225_65 ?_
      refine en_AW_ls (congrArg (fun z_ : Int => ([some (.inr (.inr (1, 6, 84))), some (.inl l), some (.inl z_), some (.inl (((i : Nat) : Int) + 1))] : AL)) (show ((i : Nat) : Int) = ((s_gn E l (i + 1) : Nat) : Int) from congrArg (fun z : Nat => (z : Int)) (show i = s_gn E l (i + 1) from by rw [s_gn_s]; exact (if_pos (by omega)).symm))) ?_
      exact ih (i + 1) (by omega) (by omega)
def a_gains (E : Ev) (l : Int) : Nat × Int := if 0 ≤ l ∧ l ≤ 25 then (if E.1 0 2 = 0 then (4, -5) else (0, ((s_gn E l (E.1 0 2).toNat : Nat) : Int))) else (1, -2)
theorem PX_gains (E : Ev) (M : Mm) (hI : isE M 1 E) (hg : s_ok E) (l : Int) (hl : -2147483648 ≤ l ∧ l < 2147483648) : en_Ct 9 0 100 [.inr (.inr (1, 5, 0)), .inl l] M (fun r M' => r = some (.inl (a_gains E l).2) ∧ sX (aX M (a_gains E l).1) M') := by
  obtain ⟨n0, n1, n2, a0, a1, a2, a3, a4, a5, a6, a7⟩ := hg.1
  have r0 : M.1 1 0 = E.1 0 0 := r0_I hI 0
  have r1 : M.1 1 1 = E.1 0 1 := r0_I hI 1
  have r2 : M.1 1 2 = E.1 0 2 := r0_I hI 2
  refine ct_100 rfl ?_
  refine aw_100_0 ?_
  by_cases c1 : 0 ≤ l ∧ l ≤ 25
  · refine ⟨2, 0, by first | decide | omega, by first | decide | omega, en_Ct_t (R_isLetter l (by omega) _) c1 ?_⟩
    refine br_ne_y (by decide) (by decide) (by decide) ?_
    refine aw_100_14 ?_
    refine br_ne (a := M.1 1 2) (b := 0) (by omega) (by omega) (fun q3 => ?_) (fun q3 => ?_)
    · refine aw_100_31 ?_
      refine en_AW_ls (congrArg (fun z_ : Int => ([some (.inr (.inr (1, 5, 0))), some (.inl l), some (.inl z_), some (.inl 1)] : AL)) (show (0 : Int) = ((s_gn E l 1 : Nat) : Int) from by rw [s_gn_1]; rfl)) ?_
      refine L_gainsX E M hI hg l hl ?_ ((E.1 0 2).toNat - 1) 1 (by omega) (by omega)
      have ha : a_gains E l = (0, ((s_gn E l (E.1 0 2).toNat : Nat) : Int)) := by
        unfold a_gains
        repeat first | rw [if_pos (by omega)] | rw [if_neg (by omega)]
        first | done | rfl | (rfl)
      rw [ha]
      exact ⟨rfl, sX_rfl⟩
    · refine ⟨2, 0, by first | decide | omega, by first | decide | omega, en_Ct_eq (R_refX (-5) (by omega) M) ?_⟩
      have ha : a_gains E l = (4, (-5)) := by
        unfold a_gains
        repeat first | rw [if_pos (by omega)] | rw [if_neg (by omega)]
        first | done | rfl | (rfl)
      rw [ha]
      exact ⟨rfl, sX_rfl⟩
  · refine ⟨2, 0, by first | decide | omega, by first | decide | omega, en_Ct_f (R_isLetter l (by omega) _) c1 ?_⟩
    refine br_ne_n (by decide) (by decide) (by decide) ?_
    refine ⟨2, 0, by first | decide | omega, by first | decide | omega, en_Ct_eq (R_refX (-2) (by omega) M) ?_⟩
    have ha : a_gains E l = (1, (-2)) := by
      unfold a_gains
      repeat first | rw [if_pos (by omega)] | rw [if_neg (by omega)]
      first | done | rfl | (rfl)
    rw [ha]
    exact ⟨rfl, sX_rfl⟩
theorem PM_gains (E : Ev) (M : Mm) (hJ : isM M 84 E) (hg : s_ok E) (l : Int) (hl : -2147483648 ≤ l ∧ l < 2147483648) : en_Ct 9 0 225 [.inr (.inr (1, 6, 84)), .inl l] M (fun r M' => r = some (.inl (a_gains E l).2) ∧ sM (aM M (a_gains E l).1) M') := by
  obtain ⟨n0, n1, n2, a0, a1, a2, a3, a4, a5, a6, a7⟩ := hg.1
  have r0 : M.1 84 9 = E.1 0 0 := hJ.1.1
  have r1 : M.1 84 10 = E.1 0 1 := hJ.1.2.1
  have r2 : M.1 84 18 = E.1 0 2 := hJ.1.2.2.1
  refine ct_225 rfl ?_
  refine aw_225_0 ?_
  by_cases c1 : 0 ≤ l ∧ l ≤ 25
  · refine ⟨1, 0, by first | decide | omega, by first | decide | omega, en_Ct_t (R_in (en_wr l) 0 25 l 0 25 (wl_wr ⟨by omega, by omega⟩) (wl_of ⟨by omega, by omega⟩) (wl_of ⟨by omega, by omega⟩) _) c1 ?_⟩
    refine br_ne_y (by decide) (by decide) (by decide) ?_
    refine aw_225_19 ?_
    refine br_ne (a := M.1 84 18) (b := 0) (by omega) (by omega) (fun q3 => ?_) (fun q3 => ?_)
    · refine aw_225_33 ?_
      refine en_AW_ls (congrArg (fun z_ : Int => ([some (.inr (.inr (1, 6, 84))), some (.inl l), some (.inl z_), some (.inl 1)] : AL)) (show (0 : Int) = ((s_gn E l 1 : Nat) : Int) from by rw [s_gn_1]; rfl)) ?_
      refine L_gainsM E M hJ hg l hl ?_ ((E.1 0 2).toNat - 1) 1 (by omega) (by omega)
      have ha : a_gains E l = (0, ((s_gn E l (E.1 0 2).toNat : Nat) : Int)) := by
        unfold a_gains
        repeat first | rw [if_pos (by omega)] | rw [if_neg (by omega)]
        first | done | rfl | (rfl)
      rw [ha]
      exact ⟨rfl, sM_rfl⟩
    · refine ⟨1, 0, by first | decide | omega, by first | decide | omega, en_Ct_eq (R_refM (-5) (by omega) M) ?_⟩
      have ha : a_gains E l = (4, (-5)) := by
        unfold a_gains
        repeat first | rw [if_pos (by omega)] | rw [if_neg (by omega)]
        first | done | rfl | (rfl)
      rw [ha]
      exact ⟨rfl, sM_rfl⟩
  · refine ⟨1, 0, by first | decide | omega, by first | decide | omega, en_Ct_f (R_in (en_wr l) 0 25 l 0 25 (wl_wr ⟨by omega, by omega⟩) (wl_of ⟨by omega, by omega⟩) (wl_of ⟨by omega, by omega⟩) _) c1 ?_⟩
    refine br_ne_n (by decide) (by decide) (by decide) ?_
    refine ⟨1, 0, by first | decide | omega, by first | decide | omega, en_Ct_eq (R_refM (-2) (by omega) M) ?_⟩
    have ha : a_gains E l = (1, (-2)) := by
      unfold a_gains
      repeat first | rw [if_pos (by omega)] | rw [if_neg (by omega)]
      first | done | rfl | (rfl)
    rw [ha]
    exact ⟨rfl, sM_rfl⟩
theorem ea_gains {E F : Ev} (h : evs E F) (hg : s_ok E) {l : Int} : a_gains E l = a_gains F l := by
  have hb := hg.1.2.2.1
  have hw := hg.1.2.1
  unfold a_gains
  rw [← ev_pp h, ev_gn h hg, h.1 2 (by decide)]
def s_stp (E : Ev) (l t : Int) (p : Nat) : Nat → Nat → Int
  | 0, _ => -1
  | n + 1, i => if s_most E p (en_rem (l + t * (i : Int)) 26) (E.1 0 2).toNat = true then (i : Int) else s_stp E l t p n (i + 1)
theorem ev_stp {E F : Ev} (h : evs E F) (hg : s_ok E) {l t : Int} {p : Nat} : ∀ n i, s_stp E l t p n i = s_stp F l t p n i
  | 0, _ => rfl
  | n + 1, i => by simp only [s_stp]; rw [← ev_pp h, ev_most h hg, ev_stp h hg n]
theorem rem_b {l t : Int} (hl : 0 ≤ l ∧ l ≤ 25) (ht : 1 ≤ t ∧ t ≤ 26) {i : Nat} (hi : i ≤ 1000) : 0 ≤ en_rem (l + t * (i : Int)) 26 ∧ en_rem (l + t * (i : Int)) 26 < 26 := by
  obtain ⟨a, rfl⟩ := Int.eq_ofNat_of_zero_le hl.1
  obtain ⟨b, rfl⟩ := Int.eq_ofNat_of_zero_le (show 0 ≤ t by omega)
  have hm : b * i ≤ 26 * 1000 := Nat.mul_le_mul (by omega) hi
  have e : (a : Int) + (b : Int) * (i : Int) = ((a + b * i : Nat) : Int) := by push_cast; rfl
  rw [e]
  have h := nu_rem (a := a + b * i) (b := 26) (by omega) (by decide) (by decide)
  rw [show ((26 : Nat) : Int) = 26 from rfl] at h
  rw [h]
  omega
theorem L_stopX {post : Option AV → Mm → Prop} (E : Ev) (M : Mm) (hI : isE M 1 E) (hg : s_ok E) (l t : Int) (hl : 0 ≤ l ∧ l ≤ 25) (ht : 1 ≤ t ∧ t ≤ 26) (p : Nat) (hp : (p : Int) < E.1 0 2) : ∀ (n : Nat) (i : Nat), (i + n = 26) → (post (some (.inl (s_stp E l t p n i))) M) → en_AW 9 0 102 post 38 [some (.inr (.inr (1, 5, 0))), some (.inl l), some (.inl t), some (.inl ((p : Nat) : Int)), some (.inl ((i : Nat) : Int))] [] M 0 := by
  intro n
  induction n with
  | zero =>
    intro i hi hq
    obtain ⟨n0, n1, n2, a0, a1, a2, a3, a4, a5, a6, a7⟩ := hg.1
    have r0 : M.1 1 0 = E.1 0 0 := r0_I hI 0
    have r1 : M.1 1 1 = E.1 0 1 := r0_I hI 1
    have r2 : M.1 1 2 = E.1 0 2 := r0_I hI 2
    refine aw_102_38 ?_
    refine br_ge_y (a := ((i : Nat) : Int)) (b := 26) (by omega) (by omega) (by omega) ?_
    refine aw_102_72 ?_
    exact hq
  | succ n ih =>
    intro i hi hq
    obtain ⟨n0, n1, n2, a0, a1, a2, a3, a4, a5, a6, a7⟩ := hg.1
    have r0 : M.1 1 0 = E.1 0 0 := r0_I hI 0
    have r1 : M.1 1 1 = E.1 0 1 := r0_I hI 1
    have r2 : M.1 1 2 = E.1 0 2 := r0_I hI 2
    have hb := rem_b hl ht (i := i) (by omega)
    refine aw_102_38 ?_
    refine br_ge_n (a := ((i : Nat) : Int)) (b := 26) (by omega) (by omega) (by omega) ?_
    refine ⟨1, 0, by first | decide | omega, by first | decide | omega, en_Ct_eq (R_letterAt l t ((i : Nat) : Int) _) ?_⟩
    by_cases c2 : s_most E p (en_rem (l + t * ((i : Nat) : Int)) 26) (E.1 0 2).toNat = true
    · refine ⟨3, 0, by first | decide | omega, by first | decide | omega, en_Ct_t (X_most (M := M) (e := 1) (E := E) hI hg (x := ((p : Nat) : Int)) (by omega) (by omega) (l := (en_rem (l + t * ((i : Nat) : Int)) 26)) (by omega)) c2 ?_⟩
      refine br_eq_n (by decide) (by decide) (by decide) ?_
      rw [s_stp, if_pos ‹_›] at hq
      exact hq
    · refine ⟨3, 0, by first | decide | omega, by first | decide | omega, en_Ct_f (X_most (M := M) (e := 1) (E := E) hI hg (x := ((p : Nat) : Int)) (by omega) (by omega) (l := (en_rem (l + t * ((i : Nat) : Int)) 26)) (by omega)) c2 ?_⟩
      refine br_eq_y (by decide) (by decide) (by decide) ?_
      refine aw_102_66 ?_
      exact ih (i + 1) (by omega) (by rw [s_stp, if_neg ‹_›] at hq; exact hq)
theorem L_stopM1 {post : Option AV → Mm → Prop} (E : Ev) (M : Mm) (hJ : isM M 84 E) (hg : s_ok E) (l t : Int) (hl : 0 ≤ l ∧ l ≤ 25) (ht : 1 ≤ t ∧ t ≤ 26) (p : Nat) (hp : (p : Int) < E.1 0 2) (i : Nat) (hi : i < 26) : ∀ (n : Nat) (j : Nat) (x : Int), (((j : Nat) : Int) + ((n : Nat) : Int) = E.1 0 2) → (x = 0 ∨ x = 1) → (x = 1 ↔ ∀ q, q < j → (q = p ∨ s_fill E q (en_rem (l + t * ((i : Nat) : Int)) 26) < s_fill E p (en_rem (l + t * ((i : Nat) : Int)) 26))) → (∀ y : Int, (y = 0 ∨ y = 1) → (y = 1 ↔ s_most E p (en_rem (l + t * ((i : Nat) : Int)) 26) (E.1 0 2).toNat = true) → en_AW 9 0 227 post 115 [some (.inr (.inr (1, 6, 84))), some (.inl l), some (.inl t), some (.inl ((p : Nat) : Int)), some (.inl ((i : Nat) : Int)), none, some (.inl y), none] [] M 0) → en_AW 9 0 227 post 66 [some (.inr (.inr (1, 6, 84))), some (.inl l), some (.inl t), some (.inl ((p : Nat) : Int)), some (.inl ((i : Nat) : Int)), some (.inl (en_rem (l + t * ((i : Nat) : Int)) 26)), some (.inl x), some (.inl ((j : Nat) : Int))] [] M 0 := by
  intro n
  induction n with
  | zero =>
    intro j x hj hx hxa hy
    obtain ⟨n0, n1, n2, a0, a1, a2, a3, a4, a5, a6, a7⟩ := hg.1
    have r0 : M.1 84 9 = E.1 0 0 := hJ.1.1
    have r1 : M.1 84 10 = E.1 0 1 := hJ.1.2.1
    have r2 : M.1 84 18 = E.1 0 2 := hJ.1.2.2.1
    refine aw_227_66 ?_
    refine br_ge_y (a := ((j : Nat) : Int)) (b := M.1 84 18) (by omega) (by omega) (by omega) ?_
    refine en_AW_drop [true, true, true, true, true, false, true, false] ?_
    refine hy x hx ⟨fun z => ?_, fun z => ?_⟩
    · rw [show (E.1 0 2).toNat = j by omega]
      exact s_most_t j (hxa.mp z)
    · refine hxa.mpr (fun q hq => ?_)
      by_cases h1 : q = p
      · exact Or.inl h1
      · by_cases h2 : s_fill E q (en_rem (l + t * ((i : Nat) : Int)) 26) < s_fill E p (en_rem (l + t * ((i : Nat) : Int)) 26)
        · exact Or.inr h2
        · rw [s_most_f (E.1 0 2).toNat q (by omega) h1 h2] at z
          cases z
  | succ n ih =>
    intro j x hj hx hxa hy
    obtain ⟨n0, n1, n2, a0, a1, a2, a3, a4, a5, a6, a7⟩ := hg.1
    have r0 : M.1 84 9 = E.1 0 0 := hJ.1.1
    have r1 : M.1 84 10 = E.1 0 1 := hJ.1.2.1
    have r2 : M.1 84 18 = E.1 0 2 := hJ.1.2.2.1
    have hb := rem_b hl ht (i := i) (by omega)
    refine aw_227_66 ?_
    refine br_ge_n (a := ((j : Nat) : Int)) (b := M.1 84 18) (by omega) (by omega) (by omega) ?_
    refine br_eq (a := ((j : Nat) : Int)) (b := ((p : Nat) : Int)) (by omega) (by omega) (fun q2 => ?_) (fun q2 => ?_)
    · refine aw_227_101 ?_
      refine aw_227_106 ?_
      refine en_AW_ls (congrArg (fun z_ : Int => ([some (.inr (.inr (1, 6, 84))), some (.inl l), some (.inl t), some (.inl ((p : Nat) : Int)), some (.inl ((i : Nat) : Int)), some (.inl (en_rem (l + t * ((i : Nat) : Int)) 26)), some (.inl z_), some (.inl (((j : Nat) : Int) + 1))] : AL)) (show en_and x 1 = x from and_1 hx)) ?_
      exact ih (j + 1) x (by omega) hx (by rw [al_s (P := fun q => q = p ∨ s_fill E q (en_rem (l + t * ((i : Nat) : Int)) 26) < s_fill E p (en_rem (l + t * ((i : Nat) : Int)) 26)), ← hxa]; exact ⟨fun z => ⟨z, by omega⟩, fun z => z.1⟩) hy
    · refine ⟨2, 0, by first | decide | omega, by first | decide | omega, en_Ct_eq (M_fill (M := M) (E := E) hJ hg (x := ((j : Nat) : Int)) (by omega) (by omega) (l := (en_rem (l + t * ((i : Nat) : Int)) 26)) (by omega)) ?_⟩
      have fb3 := s_fill_b (E := E) (p := j) (l := (en_rem (l + t * ((i : Nat) : Int)) 26))
      refine ⟨2, 0, by first | decide | omega, by first | decide | omega, en_Ct_eq (M_fill (M := M) (E := E) hJ hg (x := ((p : Nat) : Int)) (by omega) (by omega) (l := (en_rem (l + t * ((i : Nat) : Int)) 26)) (by omega)) ?_⟩
      have fb4 := s_fill_b (E := E) (p := p) (l := (en_rem (l + t * ((i : Nat) : Int)) 26))
      refine br_ge (a := ((s_fill E j (en_rem (l + t * ((i : Nat) : Int)) 26) : Nat) : Int)) (b := ((s_fill E p (en_rem (l + t * ((i : Nat) : Int)) 26) : Nat) : Int)) (by omega) (by omega) (fun q5 => ?_) (fun q5 => ?_)
      · refine aw_227_105 ?_
        refine aw_227_106 ?_
        refine en_AW_ls (congrArg (fun z_ : Int => ([some (.inr (.inr (1, 6, 84))), some (.inl l), some (.inl t), some (.inl ((p : Nat) : Int)), some (.inl ((i : Nat) : Int)), some (.inl (en_rem (l + t * ((i : Nat) : Int)) 26)), some (.inl z_), some (.inl (((j : Nat) : Int) + 1))] : AL)) (show en_and x 0 = 0 from and_0 hx)) ?_
        exact ih (j + 1) 0 (by omega) (by omega) (by rw [al_s (P := fun q => q = p ∨ s_fill E q (en_rem (l + t * ((i : Nat) : Int)) 26) < s_fill E p (en_rem (l + t * ((i : Nat) : Int)) 26))]; exact ⟨fun z => by omega, fun z => absurd z.2 (by omega)⟩) hy
      · refine aw_227_101 ?_
        refine aw_227_106 ?_
        refine en_AW_ls (congrArg (fun z_ : Int => ([some (.inr (.inr (1, 6, 84))), some (.inl l), some (.inl t), some (.inl ((p : Nat) : Int)), some (.inl ((i : Nat) : Int)), some (.inl (en_rem (l + t * ((i : Nat) : Int)) 26)), some (.inl z_), some (.inl (((j : Nat) : Int) + 1))] : AL)) (show en_and x 1 = x from and_1 hx)) ?_
        exact ih (j + 1) x (by omega) hx (by rw [al_s (P := fun q => q = p ∨ s_fill E q (en_rem (l + t * ((i : Nat) : Int)) 26) < s_fill E p (en_rem (l + t * ((i : Nat) : Int)) 26)), ← hxa]; exact ⟨fun z => ⟨z, by omega⟩, fun z => z.1⟩) hy
theorem L_stopM {post : Option AV → Mm → Prop} (E : Ev) (M : Mm) (hJ : isM M 84 E) (hg : s_ok E) (l t : Int) (hl : 0 ≤ l ∧ l ≤ 25) (ht : 1 ≤ t ∧ t ≤ 26) (p : Nat) (hp : (p : Int) < E.1 0 2) : ∀ (n : Nat) (i : Nat), (i + n = 26) → (post (some (.inl (s_stp E l t p n i))) M) → en_AW 9 0 227 post 42 [some (.inr (.inr (1, 6, 84))), some (.inl l), some (.inl t), some (.inl ((p : Nat) : Int)), some (.inl ((i : Nat) : Int)), none, none, none] [] M 0 := by
  intro n
  induction n with
  | zero =>
    intro i hi hq
    obtain ⟨n0, n1, n2, a0, a1, a2, a3, a4, a5, a6, a7⟩ := hg.1
    have r0 : M.1 84 9 = E.1 0 0 := hJ.1.1
    have r1 : M.1 84 10 = E.1 0 1 := hJ.1.2.1
    have r2 : M.1 84 18 = E.1 0 2 := hJ.1.2.2.1
    refine aw_227_42 ?_
    refine br_ge_y (a := ((i : Nat) : Int)) (b := 26) (by omega) (by omega) (by omega) ?_
    refine aw_227_129 ?_
    exact hq
  | succ n ih =>
    intro i hi hq
    obtain ⟨n0, n1, n2, a0, a1, a2, a3, a4, a5, a6, a7⟩ := hg.1
    have r0 : M.1 84 9 = E.1 0 0 := hJ.1.1
    have r1 : M.1 84 10 = E.1 0 1 := hJ.1.2.1
    have r2 : M.1 84 18 = E.1 0 2 := hJ.1.2.2.1
    have hb := rem_b hl ht (i := i) (by omega)
    refine aw_227_42 ?_
    refine br_ge_n (a := ((i : Nat) : Int)) (b := 26) (by omega) (by omega) (by omega) ?_
    refine ⟨by decide, ?_⟩
    refine L_stopM1 E M hJ hg l t hl ht p hp i (by omega) (E.1 0 2).toNat 0 1 (by omega) (by omega) ⟨fun _ q hq => absurd hq (Nat.not_lt_zero q), fun _ => rfl⟩ (fun y hy0 hy1 => ?_)
    refine aw_227_115 ?_
    refine br_eq (a := y) (b := 0) (by omega) (by omega) (fun q => ?_) (fun q => ?_)
    · refine aw_227_123 ?_
      refine en_AW_drop [true, true, true, true, true, false, false, false] ?_
      exact ih (i + 1) (by omega) (by rw [s_stp, if_neg (fun z => absurd (hy1.mpr z) (by omega))] at hq; exact hq)
    · rw [s_stp, if_pos (hy1.mp (by omega))] at hq
      exact hq
def a_stop (E : Ev) (l : Int) (t : Int) (x : Int) : Nat × Int := if (0 ≤ l ∧ l ≤ 25) ∧ (1 ≤ t ∧ t ≤ 26) ∧ 0 ≤ x ∧ x < E.1 0 2 then (0, s_stp E l t x.toNat 26 0) else (1, -2)
theorem PX_stop (E : Ev) (M : Mm) (hI : isE M 1 E) (hg : s_ok E) (l : Int) (t : Int) (x : Int) (hl : -2147483648 ≤ l ∧ l < 2147483648) (ht : -2147483648 ≤ t ∧ t < 2147483648) (hx : -2147483648 ≤ x ∧ x < 2147483648) : en_Ct 9 0 102 [.inr (.inr (1, 5, 0)), .inl l, .inl t, .inl x] M (fun r M' => r = some (.inl (a_stop E l t x).2) ∧ sX (aX M (a_stop E l t x).1) M') := by
  obtain ⟨n0, n1, n2, a0, a1, a2, a3, a4, a5, a6, a7⟩ := hg.1
  have r0 : M.1 1 0 = E.1 0 0 := r0_I hI 0
  have r1 : M.1 1 1 = E.1 0 1 := r0_I hI 1
  have r2 : M.1 1 2 = E.1 0 2 := r0_I hI 2
  refine ct_102 rfl ?_
  refine aw_102_0 ?_
  by_cases c1 : 0 ≤ l ∧ l ≤ 25
  · refine ⟨2, 0, by first | decide | omega, by first | decide | omega, en_Ct_t (R_isLetter l (by omega) _) c1 ?_⟩
    refine br_eq_n (by decide) (by decide) (by decide) ?_
    by_cases c3 : 1 ≤ t ∧ t ≤ 26
    · refine ⟨1, 0, by first | decide | omega, by first | decide | omega, en_Ct_t (R_within t 1 26 (by omega) (by omega) (by omega) _) c3 ?_⟩
      refine br_eq_n (by decide) (by decide) (by decide) ?_
      by_cases c5 : 0 ≤ x ∧ x < E.1 0 2
      · refine ⟨2, 0, by first | decide | omega, by first | decide | omega, en_Ct_t (X_isPerson (M := M) (e := 1) (E := E) hI hg (x := x) (by omega)) c5 ?_⟩
        refine br_ne_y (by decide) (by decide) (by decide) ?_
        refine aw_102_35 ?_
        obtain ⟨p, rfl⟩ := Int.eq_ofNat_of_zero_le (show 0 ≤ x by omega)
        refine L_stopX E M hI hg l t (by omega) (by omega) p (by omega) 26 0 (by omega) ?_
        have ha : a_stop E l t ((p : Nat) : Int) = (0, s_stp E l t p 26 0) := by
          unfold a_stop
          repeat first | rw [if_pos (by omega)] | rw [if_neg (by omega)]
          first | done | rfl | (rfl)
        rw [ha]
        exact ⟨rfl, sX_rfl⟩
      · refine ⟨2, 0, by first | decide | omega, by first | decide | omega, en_Ct_f (X_isPerson (M := M) (e := 1) (E := E) hI hg (x := x) (by omega)) c5 ?_⟩
        refine br_ne_n (by decide) (by decide) (by decide) ?_
        refine aw_102_28 ?_
        refine ⟨2, 0, by first | decide | omega, by first | decide | omega, en_Ct_eq (R_refX (-2) (by omega) M) ?_⟩
        have ha : a_stop E l t x = (1, (-2)) := by
          unfold a_stop
          repeat first | rw [if_pos (by omega)] | rw [if_neg (by omega)]
          first | done | rfl | (rfl)
        rw [ha]
        exact ⟨rfl, sX_rfl⟩
    · refine ⟨1, 0, by first | decide | omega, by first | decide | omega, en_Ct_f (R_within t 1 26 (by omega) (by omega) (by omega) _) c3 ?_⟩
      refine br_eq_y (by decide) (by decide) (by decide) ?_
      refine aw_102_28 ?_
      refine ⟨2, 0, by first | decide | omega, by first | decide | omega, en_Ct_eq (R_refX (-2) (by omega) M) ?_⟩
      have ha : a_stop E l t x = (1, (-2)) := by
        unfold a_stop
        repeat first | rw [if_pos (by omega)] | rw [if_neg (by omega)]
        first | done | rfl | (rfl)
      rw [ha]
      exact ⟨rfl, sX_rfl⟩
  · refine ⟨2, 0, by first | decide | omega, by first | decide | omega, en_Ct_f (R_isLetter l (by omega) _) c1 ?_⟩
    refine br_eq_y (by decide) (by decide) (by decide) ?_
    refine aw_102_28 ?_
    refine ⟨2, 0, by first | decide | omega, by first | decide | omega, en_Ct_eq (R_refX (-2) (by omega) M) ?_⟩
    have ha : a_stop E l t x = (1, (-2)) := by
      unfold a_stop
      repeat first | rw [if_pos (by omega)] | rw [if_neg (by omega)]
      first | done | rfl | (rfl)
    rw [ha]
    exact ⟨rfl, sX_rfl⟩
theorem PM_stop (E : Ev) (M : Mm) (hJ : isM M 84 E) (hg : s_ok E) (l : Int) (t : Int) (x : Int) (hl : -2147483648 ≤ l ∧ l < 2147483648) (ht : -2147483648 ≤ t ∧ t < 2147483648) (hx : -2147483648 ≤ x ∧ x < 2147483648) : en_Ct 9 0 227 [.inr (.inr (1, 6, 84)), .inl l, .inl t, .inl x] M (fun r M' => r = some (.inl (a_stop E l t x).2) ∧ sM (aM M (a_stop E l t x).1) M') := by
  obtain ⟨n0, n1, n2, a0, a1, a2, a3, a4, a5, a6, a7⟩ := hg.1
  have r0 : M.1 84 9 = E.1 0 0 := hJ.1.1
  have r1 : M.1 84 10 = E.1 0 1 := hJ.1.2.1
  have r2 : M.1 84 18 = E.1 0 2 := hJ.1.2.2.1
  refine ct_227 rfl ?_
  refine aw_227_0 ?_
  by_cases c1 : 0 ≤ l ∧ l ≤ 25
  · refine ⟨1, 0, by first | decide | omega, by first | decide | omega, en_Ct_t (R_in (en_wr l) 0 25 l 0 25 (wl_wr ⟨by omega, by omega⟩) (wl_of ⟨by omega, by omega⟩) (wl_of ⟨by omega, by omega⟩) _) c1 ?_⟩
    refine br_eq_n (by decide) (by decide) (by decide) ?_
    by_cases c3 : 1 ≤ t ∧ t ≤ 26
    · refine ⟨1, 0, by first | decide | omega, by first | decide | omega, en_Ct_t (R_in (en_wr t) 1 26 t 1 26 (wl_wr ⟨by omega, by omega⟩) (wl_of ⟨by omega, by omega⟩) (wl_of ⟨by omega, by omega⟩) _) c3 ?_⟩
      refine br_eq_n (by decide) (by decide) (by decide) ?_
      by_cases c5 : 0 ≤ x ∧ x < E.1 0 2
      · refine ⟨2, 0, by first | decide | omega, by first | decide | omega, en_Ct_t (M_isPerson (M := M) (E := E) hJ hg (x := x) (by omega)) c5 ?_⟩
        refine br_ne_y (by decide) (by decide) (by decide) ?_
        refine aw_227_39 ?_
        obtain ⟨p, rfl⟩ := Int.eq_ofNat_of_zero_le (show 0 ≤ x by omega)
        refine L_stopM E M hJ hg l t (by omega) (by omega) p (by omega) 26 0 (by omega) ?_
        have ha : a_stop E l t ((p : Nat) : Int) = (0, s_stp E l t p 26 0) := by
          unfold a_stop
          repeat first | rw [if_pos (by omega)] | rw [if_neg (by omega)]
          first | done | rfl | (rfl)
        rw [ha]
        exact ⟨rfl, sM_rfl⟩
      · refine ⟨2, 0, by first | decide | omega, by first | decide | omega, en_Ct_f (M_isPerson (M := M) (E := E) hJ hg (x := x) (by omega)) c5 ?_⟩
        refine br_ne_n (by decide) (by decide) (by decide) ?_
        refine aw_227_32 ?_
        refine ⟨1, 0, by first | decide | omega, by first | decide | omega, en_Ct_eq (R_refM (-2) (by omega) M) ?_⟩
        have ha : a_stop E l t x = (1, (-2)) := by
          unfold a_stop
          repeat first | rw [if_pos (by omega)] | rw [if_neg (by omega)]
          first | done | rfl | (rfl)
        rw [ha]
        exact ⟨rfl, sM_rfl⟩
    · refine ⟨1, 0, by first | decide | omega, by first | decide | omega, en_Ct_f (R_in (en_wr t) 1 26 t 1 26 (wl_wr ⟨by omega, by omega⟩) (wl_of ⟨by omega, by omega⟩) (wl_of ⟨by omega, by omega⟩) _) c3 ?_⟩
      refine br_eq_y (by decide) (by decide) (by decide) ?_
      refine aw_227_32 ?_
      refine ⟨1, 0, by first | decide | omega, by first | decide | omega, en_Ct_eq (R_refM (-2) (by omega) M) ?_⟩
      have ha : a_stop E l t x = (1, (-2)) := by
        unfold a_stop
        repeat first | rw [if_pos (by omega)] | rw [if_neg (by omega)]
        first | done | rfl | (rfl)
      rw [ha]
      exact ⟨rfl, sM_rfl⟩
  · refine ⟨1, 0, by first | decide | omega, by first | decide | omega, en_Ct_f (R_in (en_wr l) 0 25 l 0 25 (wl_wr ⟨by omega, by omega⟩) (wl_of ⟨by omega, by omega⟩) (wl_of ⟨by omega, by omega⟩) _) c1 ?_⟩
    refine br_eq_y (by decide) (by decide) (by decide) ?_
    refine aw_227_32 ?_
    refine ⟨1, 0, by first | decide | omega, by first | decide | omega, en_Ct_eq (R_refM (-2) (by omega) M) ?_⟩
    have ha : a_stop E l t x = (1, (-2)) := by
      unfold a_stop
      repeat first | rw [if_pos (by omega)] | rw [if_neg (by omega)]
      first | done | rfl | (rfl)
    rw [ha]
    exact ⟨rfl, sM_rfl⟩
theorem ea_stop {E F : Ev} (h : evs E F) (hg : s_ok E) {l : Int} {t : Int} {x : Int} : a_stop E l t x = a_stop F l t x := by
  have hb := hg.1.2.2.1
  have hw := hg.1.2.1
  unfold a_stop
  rw [ev_stp h hg, h.1 2 (by decide)]
