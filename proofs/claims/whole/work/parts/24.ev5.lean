theorem br_le' {a b : Int} {P Q : Prop} (t : en_wr a ≤ en_wr b → P) (f : en_wr b < en_wr a → Q) : (en_cmp .le a b → P) ∧ (¬ en_cmp .le a b → Q) := ⟨t, fun q => f (Int.not_le.mp q)⟩
theorem br_gt' {a b : Int} {P Q : Prop} (t : en_wr b < en_wr a → P) (f : en_wr a ≤ en_wr b → Q) : (en_cmp .gt a b → P) ∧ (¬ en_cmp .gt a b → Q) := ⟨t, fun q => f (Int.not_lt.mp q)⟩
theorem s_fs_s {E : Ev} {n : Nat} : s_fs E (n + 1) = if en_wr (E.1 15 (s_fs E n)) < en_wr (E.1 15 n) then n else s_fs E n := rfl
theorem s_fs_1 {E : Ev} : s_fs E 1 = 0 := by rw [s_fs_s]; split <;> rfl
theorem L_fs {post : Option AV → Mm → Prop} (e : Nat) (M : Mm) (hn : s_num (vE M e)) (hW : s_wok (vE M e)) (hq : post (some (.inl ((s_fs (vE M e) (M.1 e 2).toNat : Nat) : Int))) M) : ∀ (n : Nat) (i : Nat), (1 ≤ i) → (((i : Nat) : Int) + ((n : Nat) : Int) = M.1 e 2) → en_AW 1 0 34 post 4 [some (.inr (.inr (1, 1, e))), some (.inl ((s_fs (vE M e) i : Nat) : Int)), some (.inl ((i : Nat) : Int))] [] M 0 := by
  intro n
  induction n with
  | zero =>
    intro i hi1 hi
    obtain ⟨n0, n1, n2, a0, a1, a2, a3, a4, a5, a6, a7⟩ := nm_E hn
    refine aw_34_4 ?_
    refine br_ge_y (a := ((i : Nat) : Int)) (b := M.1 e 2) (by omega) (by omega) (by omega) ?_
    refine aw_34_35 ?_
    rw [show (M.1 e 2).toNat = i by omega] at hq
    exact hq
  | succ n ih =>
    intro i hi1 hi
    obtain ⟨n0, n1, n2, a0, a1, a2, a3, a4, a5, a6, a7⟩ := nm_E hn
    have hf := s_fs_lt (vE M e) i (by omega)
    refine aw_34_4 ?_
    refine br_ge_n (a := ((i : Nat) : Int)) (b := M.1 e 2) (by omega) (by omega) (by omega) ?_
    refine ⟨i, rfl, (show i < 4 by omega), ?_⟩
    refine ⟨s_fs (vE M e) i, rfl, (show s_fs (vE M e) i < 4 by omega), ?_⟩
    refine br_le' (a := M.1 (e + 15) i) (b := M.1 (e + 15) (s_fs (vE M e) i)) (fun q2 => ?_) (fun q2 => ?_)
    · refine aw_34_29 ?_
      refine en_AW_ls (congrArg (fun z_ : Int => ([some (.inr (.inr (1, 1, e))), some (.inl z_), some (.inl (((i : Nat) : Int) + 1))] : AL)) (show ((s_fs (vE M e) i : Nat) : Int) = ((s_fs (vE M e) (i + 1) : Nat) : Int) from congrArg (fun z : Nat => (z : Int)) (show s_fs (vE M e) i = s_fs (vE M e) (i + 1) from by rw [s_fs_s]; exact (if_neg (Int.not_lt.mpr ‹_›)).symm))) ?_
      exact ih (i + 1) (by omega) (by omega)
    · refine aw_34_29 ?_
      refine en_AW_ls (congrArg (fun z_ : Int => ([some (.inr (.inr (1, 1, e))), some (.inl z_), some (.inl (((i : Nat) : Int) + 1))] : AL)) (show ((i : Nat) : Int) = ((s_fs (vE M e) (i + 1) : Nat) : Int) from congrArg (fun z : Nat => (z : Int)) (show i = s_fs (vE M e) (i + 1) from by rw [s_fs_s]; exact (if_pos ‹_›).symm))) ?_
      exact ih (i + 1) (by omega) (by omega)
theorem R_fs (e : Nat) (M : Mm) (hn : s_num (vE M e)) (hW : s_wok (vE M e)) (hp : 1 ≤ M.1 e 2) : en_Ct 1 0 34 [.inr (.inr (1, 1, e))] M (fun r M' => r = some (.inl (((s_fs (vE M e) (M.1 e 2).toNat : Nat) : Int))) ∧ M' = M) := by
  obtain ⟨n0, n1, n2, a0, a1, a2, a3, a4, a5, a6, a7⟩ := nm_E hn
  refine ct_34 rfl ?_
  refine aw_34_0 ?_
  refine en_AW_ls (congrArg (fun z_ : Int => ([some (.inr (.inr (1, 1, e))), some (.inl z_), some (.inl 1)] : AL)) (show (0 : Int) = ((s_fs (vE M e) 1 : Nat) : Int) from by rw [s_fs_1]; rfl)) ?_
  exact L_fs e M hn hW ⟨rfl, rfl⟩ ((M.1 e 2).toNat - 1) 1 (by omega) (by omega)
theorem cnt_t {f : Nat → Int} {i n w : Nat} (h : (f i).toNat = w) : (shl f i (n + 1)).count w = (shl f (i + 1) n).count w + 1 := by
  show ((f i).toNat :: shl f (i + 1) n).count w = _
  rw [h, List.count_cons_self]
theorem cnt_f {f : Nat → Int} {i n w : Nat} (h : ¬ (f i).toNat = w) : (shl f i (n + 1)).count w = (shl f (i + 1) n).count w := by
  show ((f i).toNat :: shl f (i + 1) n).count w = _
  rw [List.count_cons_of_ne h]
theorem shl_cnt_le (f : Nat → Int) (w : Nat) : ∀ n i : Nat, (shl f i n).count w ≤ n := fun n i => by have := List.count_le_length (a := w) (l := shl f i n); rw [shl_len] at this; exact this
theorem s_sw_le {E : Ev} {w : Nat} : ∀ n : Nat, n ≤ 4 → (∀ p, p < 4 → s_sh E p) → s_sw E w n ≤ 5 * n
  | 0, _, _ => by simp [s_sw]
  | n + 1, h, hs => by
    have ih := s_sw_le (w := w) n (by omega) hs
    have h1 := shl_cnt_le (E.2 n) w (E.1 14 n).toNat 0
    have h2 := (hs n (by omega)).1
    show s_sw E w n + (s_shl E n).count w ≤ _
    unfold s_shl
    omega
theorem L_sw1 {post : Option AV → Mm → Prop} (e : Nat) (M : Mm) (hn : s_num (vE M e)) (hW : s_wok (vE M e)) (hS : ∀ p, p < 4 → s_sh (vE M e) p) (w j : Nat) (hw24 : w < 24) (hj : j < 4) : ∀ (n : Nat) (i : Nat) (c : Nat), (((i : Nat) : Int) + ((n : Nat) : Int) = M.1 (e + 14) j) → (en_AW 1 0 25 post 48 [some (.inr (.inr (1, 1, e))), some (.inl ((w : Nat) : Int)), some (.inl ((c + (shl (M.1 (e + 9 + 1 + 1 * j)) i n).count w : Nat) : Int)), some (.inl ((j : Nat) : Int)), none] [] M 0) → en_AW 1 0 25 post 15 [some (.inr (.inr (1, 1, e))), some (.inl ((w : Nat) : Int)), some (.inl ((c : Nat) : Int)), some (.inl ((j : Nat) : Int)), some (.inl ((i : Nat) : Int))] [] M 0 := by
  intro n
  induction n with
  | zero =>
    intro i c hi hx
    obtain ⟨n0, n1, n2, a0, a1, a2, a3, a4, a5, a6, a7⟩ := nm_E hn
    obtain ⟨s1, s2⟩ := sh_E (hS j hj)
    refine aw_25_15 ?_
    refine ⟨j, rfl, (show j < 4 by omega), ?_⟩
    refine br_ge_y (a := ((i : Nat) : Int)) (b := M.1 (e + 14) j) (by omega) (by omega) (by omega) ?_
    refine en_AW_drop [true, true, true, true, false] ?_
    exact hx
  | succ n ih =>
    intro i c hi hx
    obtain ⟨n0, n1, n2, a0, a1, a2, a3, a4, a5, a6, a7⟩ := nm_E hn
    obtain ⟨s1, s2⟩ := sh_E (hS j hj)
    obtain ⟨x0, x1⟩ := s2 i (by omega)
    refine aw_25_15 ?_
    refine ⟨j, rfl, (show j < 4 by omega), ?_⟩
    refine br_ge_n (a := ((i : Nat) : Int)) (b := M.1 (e + 14) j) (by omega) (by omega) (by omega) ?_
    refine ⟨j, rfl, (show j < 4 by omega), ?_⟩
    refine ⟨i, rfl, (show i < 5 by omega), ?_⟩
    refine br_ne (a := M.1 (e + 9 + 1 + 1 * j) i) (b := ((w : Nat) : Int)) (by omega) (by omega) (fun q2 => ?_) (fun q2 => ?_)
    · refine aw_25_42 ?_
      exact ih (i + 1) c (by omega) (by rw [cnt_f (by omega)] at hx; exact hx)
    · refine aw_25_42 ?_
      exact ih (i + 1) (c + 1) (by omega) (by rw [cnt_t (by omega), show c + ((shl (M.1 (e + 9 + 1 + 1 * j)) (i + 1) n).count w + 1) = c + 1 + (shl (M.1 (e + 9 + 1 + 1 * j)) (i + 1) n).count w by omega] at hx; exact hx)
theorem L_sw {post : Option AV → Mm → Prop} (e : Nat) (M : Mm) (hn : s_num (vE M e)) (hW : s_wok (vE M e)) (hS : ∀ p, p < 4 → s_sh (vE M e) p) (w : Nat) (hw24 : w < 24) (hq : post (some (.inl ((s_sw (vE M e) w (M.1 e 2).toNat : Nat) : Int))) M) : ∀ (n : Nat) (j : Nat), (((j : Nat) : Int) + ((n : Nat) : Int) = M.1 e 2) → en_AW 1 0 25 post 4 [some (.inr (.inr (1, 1, e))), some (.inl ((w : Nat) : Int)), some (.inl ((s_sw (vE M e) w j : Nat) : Int)), some (.inl ((j : Nat) : Int)), none] [] M 0 := by
  intro n
  induction n with
  | zero =>
    intro j hi
    obtain ⟨n0, n1, n2, a0, a1, a2, a3, a4, a5, a6, a7⟩ := nm_E hn
    refine aw_25_4 ?_
    refine br_ge_y (a := ((j : Nat) : Int)) (b := M.1 e 2) (by omega) (by omega) (by omega) ?_
    refine aw_25_54 ?_
    rw [show (M.1 e 2).toNat = j by omega] at hq
    exact hq
  | succ n ih =>
    intro j hi
    obtain ⟨n0, n1, n2, a0, a1, a2, a3, a4, a5, a6, a7⟩ := nm_E hn
    obtain ⟨s1, s2⟩ := sh_E (hS j (by omega))
    refine aw_25_4 ?_
    refine br_ge_n (a := ((j : Nat) : Int)) (b := M.1 e 2) (by omega) (by omega) (by omega) ?_
    exact L_sw1 e M hn hW hS w j hw24 (by omega) (M.1 (e + 14) j).toNat 0 (s_sw (vE M e) w j) (by omega) (aw_25_48 (ih (j + 1) (by omega)))
theorem R_sw (e : Nat) (M : Mm) (hn : s_num (vE M e)) (hW : s_wok (vE M e)) (hS : ∀ p, p < 4 → s_sh (vE M e) p) (w : Nat) (hw24 : w < 24) : en_Ct 1 0 25 [.inr (.inr (1, 1, e)), .inl ((w : Nat) : Int)] M (fun r M' => r = some (.inl (((s_sw (vE M e) w (M.1 e 2).toNat : Nat) : Int))) ∧ M' = M) := by
  obtain ⟨n0, n1, n2, a0, a1, a2, a3, a4, a5, a6, a7⟩ := nm_E hn
  refine ct_25 rfl ?_
  refine aw_25_0 ?_
  exact L_sw e M hn hW hS w hw24 ⟨rfl, rfl⟩ (M.1 e 2).toNat 0 (by omega)
