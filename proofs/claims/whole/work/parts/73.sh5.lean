def prL (M : Mm) (a : Nat) (f : Nat → Int) (n : Nat) : Mm := (M.1, fun b => if b = a then (fun i => if i < n then f i else M.2 a i) else M.2 b)
theorem prL_step {M : Mm} {a n : Nat} {f : Nat → Int} {x : Int} (h : x = f n) : en_wL (prL M a f n) a n x = prL M a f (n + 1) := by
  subst h
  unfold en_wL prL
  refine Prod.ext rfl (funext fun b => ?_)
  by_cases hb : b = a
  · subst hb
    simp only [if_true]
    funext i
    by_cases hi : i = n
    · subst hi
      simp
    · have e : (i < n + 1) ↔ (i < n) := by omega
      simp [hi, e]
  · simp [hb]
theorem prL_0 {M : Mm} {a : Nat} {f : Nat → Int} : prL M a f 0 = M := by
  unfold prL
  refine Prod.ext rfl (funext fun b => ?_)
  by_cases hb : b = a
  · subst hb; simp
  · simp [hb]
def brS (M : Mm) (A : Nat) (t n : Int) : Mm := prL (en_wI (en_wI (clS M A) A 0 t) A 1 n) (A + 1) z0 40
def brM (M : Mm) (s : Nat) (t n : Int) : Mm := prL (en_wI (en_wI (en_wI M 85 s 1) 86 s t) 87 s n) (89 + 1 * s) z0 40
theorem L_becomeRow {post : Option AV → Mm → Prop} (A : Nat) (t m : Int) (M : Mm) (hq : post none (prL M (A + 1) z0 40)) : ∀ (n : Nat) (i : Nat), (i + n = 40) → en_AW 2 0 64 post 16 [some (.inr (.inr (1, 4, A))), some (.inl t), some (.inl m), some (.inl ((i : Nat) : Int))] [] (prL M (A + 1) z0 i) 0 := by
  intro n
  induction n with
  | zero =>
    intro i hi
    refine aw_64_16 ?_
    refine br_ge_y (a := ((i : Nat) : Int)) (b := 40) (by omega) (by omega) (by omega) ?_
    refine aw_64_35 ?_
    rw [show i = 40 by omega]
    exact hq
  | succ n ih =>
    intro i hi
    refine aw_64_16 ?_
    refine br_ge_n (a := ((i : Nat) : Int)) (b := 40) (by omega) (by omega) (by omega) ?_
    refine ⟨i, rfl, (show i < 40 by omega), ?_⟩
    refine en_AW_M (show en_wL (prL M (A + 1) z0 i) (A + 1) i 0 = prL M (A + 1) z0 (i + 1) from prL_step rfl) ?_
    exact ih (i + 1) (by omega)
theorem R_becomeRow (A : Nat) (t n : Int) (M : Mm) : en_Ct 2 0 64 [.inr (.inr (1, 4, A)), .inl t, .inl n] M (fun r M' => r = none ∧ M' = brS M A t n) := by
  refine ct_64 rfl ?_
  refine aw_64_0 ?_
  refine ⟨1, 0, by first | decide | omega, by first | decide | omega, en_Ct_eq (R_clear A M) ?_⟩
  refine en_AW_M (show en_wI (en_wI (clS M A) A 0 t) A 1 n = prL (en_wI (en_wI (clS M A) A 0 t) A 1 n) (A + 1) z0 0 from prL_0.symm) ?_
  exact L_becomeRow A t n _ ⟨rfl, rfl⟩ 40 0 (by omega)
theorem L_rowM {post : Option AV → Mm → Prop} (s : Nat) (hs8 : s < 8) (t m : Int) (M : Mm) (hq : post (some (.inl 1)) (prL M (89 + 1 * s) z0 40)) : ∀ (n : Nat) (i : Nat), (i + n = 40) → en_AW 9 0 145 post 67 [some (.inr (.inr (1, 6, 84))), some (.inl ((s : Nat) : Int)), some (.inl t), some (.inl m), some (.inl ((i : Nat) : Int))] [] (prL M (89 + 1 * s) z0 i) 0 := by
  intro n
  induction n with
  | zero =>
    intro i hi
    refine aw_145_67 ?_
    refine br_ge_y (a := ((i : Nat) : Int)) (b := 40) (by omega) (by omega) (by omega) ?_
    refine aw_145_90 ?_
    rw [show i = 40 by omega]
    exact hq
  | succ n ih =>
    intro i hi
    refine aw_145_67 ?_
    refine br_ge_n (a := ((i : Nat) : Int)) (b := 40) (by omega) (by omega) (by omega) ?_
    refine ⟨s, rfl, (show s < 8 by omega), ?_⟩
    refine ⟨i, rfl, (show i < 40 by omega), ?_⟩
    refine en_AW_M (show en_wL (prL M (89 + 1 * s) z0 i) (89 + 1 * s) i 0 = prL M (89 + 1 * s) z0 (i + 1) from prL_step rfl) ?_
    exact ih (i + 1) (by omega)
def a_row (s t n : Int) : Nat × Int := if (0 ≤ s ∧ s ≤ 7) ∧ (0 ≤ t ∧ t ≤ 4) ∧ 0 ≤ n ∧ n ≤ 40 then (0, 1) else (1, -2)
theorem R_rowX (s t n : Int) (hs : -2147483648 ≤ s ∧ s < 2147483648) (ht : -2147483648 ≤ t ∧ t < 2147483648) (hn : -2147483648 ≤ n ∧ n < 2147483648) (M : Mm) : en_Ct 9 0 68 [.inr (.inr (1, 5, 0)), .inl s, .inl t, .inl n] M (fun r M' => r = some (.inl (a_row s t n).2) ∧ (((a_row s t n).1 ≠ 0 ∧ M' = aX M (a_row s t n).1) ∨ ((a_row s t n).1 = 0 ∧ M' = brS M (68 + 2 * s.toNat) t n))) := by
  refine ct_68 rfl ?_
  refine aw_68_0 ?_
  by_cases c1 : 0 ≤ s ∧ s ≤ 7
  · refine ⟨2, 0, by first | decide | omega, by first | decide | omega, en_Ct_t (R_isShelf s (by omega) _) c1 ?_⟩
    refine br_eq_n (by decide) (by decide) (by decide) ?_
    by_cases c3 : 0 ≤ t ∧ t ≤ 4
    · refine ⟨1, 0, by first | decide | omega, by first | decide | omega, en_Ct_t (R_within t 0 4 (by omega) (by omega) (by omega) _) c3 ?_⟩
      refine br_eq_n (by decide) (by decide) (by decide) ?_
      by_cases c5 : 0 ≤ n ∧ n ≤ 40
      · refine ⟨1, 0, by first | decide | omega, by first | decide | omega, en_Ct_t (R_within n 0 40 (by omega) (by omega) (by omega) _) c5 ?_⟩
        refine br_ne_y (by decide) (by decide) (by decide) ?_
        refine aw_68_33 ?_
        refine ⟨s.toNat, it_nn (x := s) (by omega), (show s.toNat < 8 by omega), ?_⟩
        refine ⟨2, 0, by first | decide | omega, by first | decide | omega, en_Ct_eq (R_becomeRow (68 + 2 * s.toNat) t n M) ?_⟩
        have ha : a_row s t n = (0, 1) := by
          unfold a_row
          repeat first | rw [if_pos (by omega)] | rw [if_neg (by omega)]
        rw [ha]
        exact ⟨rfl, Or.inr ⟨rfl, rfl⟩⟩
      · refine ⟨1, 0, by first | decide | omega, by first | decide | omega, en_Ct_f (R_within n 0 40 (by omega) (by omega) (by omega) _) c5 ?_⟩
        refine br_ne_n (by decide) (by decide) (by decide) ?_
        refine aw_68_26 ?_
        refine ⟨2, 0, by first | decide | omega, by first | decide | omega, en_Ct_eq (R_refX (-2) (by omega) M) ?_⟩
        have ha : a_row s t n = (1, (-2)) := by
          unfold a_row
          repeat first | rw [if_pos (by omega)] | rw [if_neg (by omega)]
        rw [ha]
        exact ⟨rfl, Or.inl ⟨by decide, rfl⟩⟩
    · refine ⟨1, 0, by first | decide | omega, by first | decide | omega, en_Ct_f (R_within t 0 4 (by omega) (by omega) (by omega) _) c3 ?_⟩
      refine br_eq_y (by decide) (by decide) (by decide) ?_
      refine aw_68_26 ?_
      refine ⟨2, 0, by first | decide | omega, by first | decide | omega, en_Ct_eq (R_refX (-2) (by omega) M) ?_⟩
      have ha : a_row s t n = (1, (-2)) := by
        unfold a_row
        repeat first | rw [if_pos (by omega)] | rw [if_neg (by omega)]
      rw [ha]
      exact ⟨rfl, Or.inl ⟨by decide, rfl⟩⟩
  · refine ⟨2, 0, by first | decide | omega, by first | decide | omega, en_Ct_f (R_isShelf s (by omega) _) c1 ?_⟩
    refine br_eq_y (by decide) (by decide) (by decide) ?_
    refine aw_68_26 ?_
    refine ⟨2, 0, by first | decide | omega, by first | decide | omega, en_Ct_eq (R_refX (-2) (by omega) M) ?_⟩
    have ha : a_row s t n = (1, (-2)) := by
      unfold a_row
      repeat first | rw [if_pos (by omega)] | rw [if_neg (by omega)]
    rw [ha]
    exact ⟨rfl, Or.inl ⟨by decide, rfl⟩⟩
theorem R_rowM (s t n : Int) (hs : -2147483648 ≤ s ∧ s < 2147483648) (ht : -2147483648 ≤ t ∧ t < 2147483648) (hn : -2147483648 ≤ n ∧ n < 2147483648) (M : Mm) : en_Ct 9 0 145 [.inr (.inr (1, 6, 84)), .inl s, .inl t, .inl n] M (fun r M' => r = some (.inl (a_row s t n).2) ∧ (((a_row s t n).1 ≠ 0 ∧ M' = aM M (a_row s t n).1) ∨ ((a_row s t n).1 = 0 ∧ M' = brM M s.toNat t n))) := by
  refine ct_145 rfl ?_
  refine aw_145_0 ?_
  by_cases c1 : 0 ≤ s ∧ s ≤ 7
  · refine ⟨1, 0, by first | decide | omega, by first | decide | omega, en_Ct_t (R_in (en_wr s) 0 7 s 0 7 (wl_wr ⟨by omega, by omega⟩) (wl_of ⟨by omega, by omega⟩) (wl_of ⟨by omega, by omega⟩) _) c1 ?_⟩
    refine br_eq_n (by decide) (by decide) (by decide) ?_
    by_cases c3 : 0 ≤ t ∧ t ≤ 4
    · refine ⟨1, 0, by first | decide | omega, by first | decide | omega, en_Ct_t (R_in (en_wr t) 0 4 t 0 4 (wl_wr ⟨by omega, by omega⟩) (wl_of ⟨by omega, by omega⟩) (wl_of ⟨by omega, by omega⟩) _) c3 ?_⟩
      refine br_eq_n (by decide) (by decide) (by decide) ?_
      by_cases c5 : 0 ≤ n ∧ n ≤ 40
      · refine ⟨1, 0, by first | decide | omega, by first | decide | omega, en_Ct_t (R_in (en_wr n) 0 40 n 0 40 (wl_wr ⟨by omega, by omega⟩) (wl_of ⟨by omega, by omega⟩) (wl_of ⟨by omega, by omega⟩) _) c5 ?_⟩
        refine br_ne_y (by decide) (by decide) (by decide) ?_
        refine aw_145_43 ?_
        refine ⟨s.toNat, it_nn (x := s) (by omega), (show s.toNat < 8 by omega), ?_⟩
        refine ⟨s.toNat, it_nn (x := s) (by omega), (show s.toNat < 8 by omega), ?_⟩
        refine ⟨s.toNat, it_nn (x := s) (by omega), (show s.toNat < 8 by omega), ?_⟩
        obtain ⟨k, rfl⟩ := Int.eq_ofNat_of_zero_le (show 0 ≤ s by omega)
        have ha : a_row ((k : Nat) : Int) t n = (0, 1) := by
          unfold a_row
          repeat first | rw [if_pos (by omega)] | rw [if_neg (by omega)]
        rw [ha]
        refine en_AW_M (prL_0 (a := 89 + 1 * k) (f := z0)).symm ?_
        exact L_rowM k (by omega) t n _ ⟨rfl, Or.inr ⟨rfl, rfl⟩⟩ 40 0 (by omega)
      · refine ⟨1, 0, by first | decide | omega, by first | decide | omega, en_Ct_f (R_in (en_wr n) 0 40 n 0 40 (wl_wr ⟨by omega, by omega⟩) (wl_of ⟨by omega, by omega⟩) (wl_of ⟨by omega, by omega⟩) _) c5 ?_⟩
        refine br_ne_n (by decide) (by decide) (by decide) ?_
        refine aw_145_36 ?_
        refine ⟨1, 0, by first | decide | omega, by first | decide | omega, en_Ct_eq (R_refM (-2) (by omega) M) ?_⟩
        have ha : a_row s t n = (1, (-2)) := by
          unfold a_row
          repeat first | rw [if_pos (by omega)] | rw [if_neg (by omega)]
        rw [ha]
        exact ⟨rfl, Or.inl ⟨by decide, rfl⟩⟩
    · refine ⟨1, 0, by first | decide | omega, by first | decide | omega, en_Ct_f (R_in (en_wr t) 0 4 t 0 4 (wl_wr ⟨by omega, by omega⟩) (wl_of ⟨by omega, by omega⟩) (wl_of ⟨by omega, by omega⟩) _) c3 ?_⟩
      refine br_eq_y (by decide) (by decide) (by decide) ?_
      refine aw_145_36 ?_
      refine ⟨1, 0, by first | decide | omega, by first | decide | omega, en_Ct_eq (R_refM (-2) (by omega) M) ?_⟩
      have ha : a_row s t n = (1, (-2)) := by
        unfold a_row
        repeat first | rw [if_pos (by omega)] | rw [if_neg (by omega)]
      rw [ha]
      exact ⟨rfl, Or.inl ⟨by decide, rfl⟩⟩
  · refine ⟨1, 0, by first | decide | omega, by first | decide | omega, en_Ct_f (R_in (en_wr s) 0 7 s 0 7 (wl_wr ⟨by omega, by omega⟩) (wl_of ⟨by omega, by omega⟩) (wl_of ⟨by omega, by omega⟩) _) c1 ?_⟩
    refine br_eq_y (by decide) (by decide) (by decide) ?_
    refine aw_145_36 ?_
    refine ⟨1, 0, by first | decide | omega, by first | decide | omega, en_Ct_eq (R_refM (-2) (by omega) M) ?_⟩
    have ha : a_row s t n = (1, (-2)) := by
      unfold a_row
      repeat first | rw [if_pos (by omega)] | rw [if_neg (by omega)]
    rw [ha]
    exact ⟨rfl, Or.inl ⟨by decide, rfl⟩⟩
