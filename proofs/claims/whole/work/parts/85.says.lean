/-! says -/
abbrev und (a b : Int) : Prop := b = 0 ∨ a = b ∨ (b = 1 ∧ a = 3) ∨ (b = 2 ∧ a = 5)
theorem R_und0 (b : Int) (hb : 0 ≤ b ∧ b ≤ 5) (M : Mm) : en_Ct 2 0 122 [.inl 0, .inl b] M (fun r M' => r = some (.inl (if und 0 b then 1 else 0)) ∧ M' = M) := by
  refine ct_122 rfl ?_
  refine aw_122_0 ?_
  refine aw_122_4 ?_
  refine br_ge_n (by decide) (by decide) (by decide) ?_
  refine ⟨1, 0, by first | decide | omega, by first | decide | omega, en_Ct_t (R_within 0 0 5 (by decide) (by decide) (by decide) _) (by decide) ?_⟩
  refine br_eq_n (by decide) (by decide) (by decide) ?_
  refine br_ne (a := 0) (b := b) (by omega) (by omega) (fun q3 => ?_) (fun q3 => ?_)
  · refine aw_122_26 ?_
    refine ⟨0, rfl, (show 0 < 6 by omega), ?_⟩
    refine aw_122_4 ?_
    refine br_ge_n (by decide) (by decide) (by decide) ?_
    refine ⟨1, 0, by first | decide | omega, by first | decide | omega, en_Ct_f (R_within (-1) 0 5 (by decide) (by decide) (by decide) _) (by decide) ?_⟩
    refine br_eq_y (by decide) (by decide) (by decide) ?_
    refine aw_122_38 ?_
    exact ⟨Or.inl rfl, by rw [if_neg (by unfold und; omega)], rfl⟩
  · exact ⟨Or.inr rfl, by rw [if_pos (by unfold und; omega)], rfl⟩
theorem R_und1 (b : Int) (hb : 0 ≤ b ∧ b ≤ 5) (M : Mm) : en_Ct 2 0 122 [.inl 1, .inl b] M (fun r M' => r = some (.inl (if und 1 b then 1 else 0)) ∧ M' = M) := by
  refine ct_122 rfl ?_
  refine aw_122_0 ?_
  refine aw_122_4 ?_
  refine br_ge_n (by decide) (by decide) (by decide) ?_
  refine ⟨1, 0, by first | decide | omega, by first | decide | omega, en_Ct_t (R_within 1 0 5 (by decide) (by decide) (by decide) _) (by decide) ?_⟩
  refine br_eq_n (by decide) (by decide) (by decide) ?_
  refine br_ne (a := 1) (b := b) (by omega) (by omega) (fun q3 => ?_) (fun q3 => ?_)
  · refine aw_122_26 ?_
    refine ⟨1, rfl, (show 1 < 6 by omega), ?_⟩
    refine aw_122_4 ?_
    refine br_ge_n (by decide) (by decide) (by decide) ?_
    refine ⟨1, 0, by first | decide | omega, by first | decide | omega, en_Ct_t (R_within 0 0 5 (by decide) (by decide) (by decide) _) (by decide) ?_⟩
    refine br_eq_n (by decide) (by decide) (by decide) ?_
    refine br_ne (a := 0) (b := b) (by omega) (by omega) (fun q6 => ?_) (fun q6 => ?_)
    · refine aw_122_26 ?_
      refine ⟨0, rfl, (show 0 < 6 by omega), ?_⟩
      refine aw_122_4 ?_
      refine br_ge_n (by decide) (by decide) (by decide) ?_
      refine ⟨1, 0, by first | decide | omega, by first | decide | omega, en_Ct_f (R_within (-1) 0 5 (by decide) (by decide) (by decide) _) (by decide) ?_⟩
      refine br_eq_y (by decide) (by decide) (by decide) ?_
      refine aw_122_38 ?_
      exact ⟨Or.inl rfl, by rw [if_neg (by unfold und; omega)], rfl⟩
    · exact ⟨Or.inr rfl, by rw [if_pos (by unfold und; omega)], rfl⟩
  · exact ⟨Or.inr rfl, by rw [if_pos (by unfold und; omega)], rfl⟩
theorem R_und2 (b : Int) (hb : 0 ≤ b ∧ b ≤ 5) (M : Mm) : en_Ct 2 0 122 [.inl 2, .inl b] M (fun r M' => r = some (.inl (if und 2 b then 1 else 0)) ∧ M' = M) := by
  refine ct_122 rfl ?_
  refine aw_122_0 ?_
  refine aw_122_4 ?_
  refine br_ge_n (by decide) (by decide) (by decide) ?_
  refine ⟨1, 0, by first | decide | omega, by first | decide | omega, en_Ct_t (R_within 2 0 5 (by decide) (by decide) (by decide) _) (by decide) ?_⟩
  refine br_eq_n (by decide) (by decide) (by decide) ?_
  refine br_ne (a := 2) (b := b) (by omega) (by omega) (fun q3 => ?_) (fun q3 => ?_)
  · refine aw_122_26 ?_
    refine ⟨2, rfl, (show 2 < 6 by omega), ?_⟩
    refine aw_122_4 ?_
    refine br_ge_n (by decide) (by decide) (by decide) ?_
    refine ⟨1, 0, by first | decide | omega, by first | decide | omega, en_Ct_t (R_within 0 0 5 (by decide) (by decide) (by decide) _) (by decide) ?_⟩
    refine br_eq_n (by decide) (by decide) (by decide) ?_
    refine br_ne (a := 0) (b := b) (by omega) (by omega) (fun q6 => ?_) (fun q6 => ?_)
    · refine aw_122_26 ?_
      refine ⟨0, rfl, (show 0 < 6 by omega), ?_⟩
      refine aw_122_4 ?_
      refine br_ge_n (by decide) (by decide) (by decide) ?_
      refine ⟨1, 0, by first | decide | omega, by first | decide | omega, en_Ct_f (R_within (-1) 0 5 (by decide) (by decide) (by decide) _) (by decide) ?_⟩
      refine br_eq_y (by decide) (by decide) (by decide) ?_
      refine aw_122_38 ?_
      exact ⟨Or.inl rfl, by rw [if_neg (by unfold und; omega)], rfl⟩
    · exact ⟨Or.inr rfl, by rw [if_pos (by unfold und; omega)], rfl⟩
  · exact ⟨Or.inr rfl, by rw [if_pos (by unfold und; omega)], rfl⟩
theorem R_und3 (b : Int) (hb : 0 ≤ b ∧ b ≤ 5) (M : Mm) : en_Ct 2 0 122 [.inl 3, .inl b] M (fun r M' => r = some (.inl (if und 3 b then 1 else 0)) ∧ M' = M) := by
  refine ct_122 rfl ?_
  refine aw_122_0 ?_
  refine aw_122_4 ?_
  refine br_ge_n (by decide) (by decide) (by decide) ?_
  refine ⟨1, 0, by first | decide | omega, by first | decide | omega, en_Ct_t (R_within 3 0 5 (by decide) (by decide) (by decide) _) (by decide) ?_⟩
  refine br_eq_n (by decide) (by decide) (by decide) ?_
  refine br_ne (a := 3) (b := b) (by omega) (by omega) (fun q3 => ?_) (fun q3 => ?_)
  · refine aw_122_26 ?_
    refine ⟨3, rfl, (show 3 < 6 by omega), ?_⟩
    refine aw_122_4 ?_
    refine br_ge_n (by decide) (by decide) (by decide) ?_
    refine ⟨1, 0, by first | decide | omega, by first | decide | omega, en_Ct_t (R_within 1 0 5 (by decide) (by decide) (by decide) _) (by decide) ?_⟩
    refine br_eq_n (by decide) (by decide) (by decide) ?_
    refine br_ne (a := 1) (b := b) (by omega) (by omega) (fun q6 => ?_) (fun q6 => ?_)
    · refine aw_122_26 ?_
      refine ⟨1, rfl, (show 1 < 6 by omega), ?_⟩
      refine aw_122_4 ?_
      refine br_ge_n (by decide) (by decide) (by decide) ?_
      refine ⟨1, 0, by first | decide | omega, by first | decide | omega, en_Ct_t (R_within 0 0 5 (by decide) (by decide) (by decide) _) (by decide) ?_⟩
      refine br_eq_n (by decide) (by decide) (by decide) ?_
      refine br_ne (a := 0) (b := b) (by omega) (by omega) (fun q9 => ?_) (fun q9 => ?_)
      · refine aw_122_26 ?_
        refine ⟨0, rfl, (show 0 < 6 by omega), ?_⟩
        refine aw_122_4 ?_
        refine br_ge_n (by decide) (by decide) (by decide) ?_
        refine ⟨1, 0, by first | decide | omega, by first | decide | omega, en_Ct_f (R_within (-1) 0 5 (by decide) (by decide) (by decide) _) (by decide) ?_⟩
        refine br_eq_y (by decide) (by decide) (by decide) ?_
        refine aw_122_38 ?_
        exact ⟨Or.inl rfl, by rw [if_neg (by unfold und; omega)], rfl⟩
      · exact ⟨Or.inr rfl, by rw [if_pos (by unfold und; omega)], rfl⟩
    · exact ⟨Or.inr rfl, by rw [if_pos (by unfold und; omega)], rfl⟩
  · exact ⟨Or.inr rfl, by rw [if_pos (by unfold und; omega)], rfl⟩
theorem R_und4 (b : Int) (hb : 0 ≤ b ∧ b ≤ 5) (M : Mm) : en_Ct 2 0 122 [.inl 4, .inl b] M (fun r M' => r = some (.inl (if und 4 b then 1 else 0)) ∧ M' = M) := by
  refine ct_122 rfl ?_
  refine aw_122_0 ?_
  refine aw_122_4 ?_
  refine br_ge_n (by decide) (by decide) (by decide) ?_
  refine ⟨1, 0, by first | decide | omega, by first | decide | omega, en_Ct_t (R_within 4 0 5 (by decide) (by decide) (by decide) _) (by decide) ?_⟩
  refine br_eq_n (by decide) (by decide) (by decide) ?_
  refine br_ne (a := 4) (b := b) (by omega) (by omega) (fun q3 => ?_) (fun q3 => ?_)
  · refine aw_122_26 ?_
    refine ⟨4, rfl, (show 4 < 6 by omega), ?_⟩
    refine aw_122_4 ?_
    refine br_ge_n (by decide) (by decide) (by decide) ?_
    refine ⟨1, 0, by first | decide | omega, by first | decide | omega, en_Ct_t (R_within 0 0 5 (by decide) (by decide) (by decide) _) (by decide) ?_⟩
    refine br_eq_n (by decide) (by decide) (by decide) ?_
    refine br_ne (a := 0) (b := b) (by omega) (by omega) (fun q6 => ?_) (fun q6 => ?_)
    · refine aw_122_26 ?_
      refine ⟨0, rfl, (show 0 < 6 by omega), ?_⟩
      refine aw_122_4 ?_
      refine br_ge_n (by decide) (by decide) (by decide) ?_
      refine ⟨1, 0, by first | decide | omega, by first | decide | omega, en_Ct_f (R_within (-1) 0 5 (by decide) (by decide) (by decide) _) (by decide) ?_⟩
      refine br_eq_y (by decide) (by decide) (by decide) ?_
      refine aw_122_38 ?_
      exact ⟨Or.inl rfl, by rw [if_neg (by unfold und; omega)], rfl⟩
    · exact ⟨Or.inr rfl, by rw [if_pos (by unfold und; omega)], rfl⟩
  · exact ⟨Or.inr rfl, by rw [if_pos (by unfold und; omega)], rfl⟩
theorem R_und5 (b : Int) (hb : 0 ≤ b ∧ b ≤ 5) (M : Mm) : en_Ct 2 0 122 [.inl 5, .inl b] M (fun r M' => r = some (.inl (if und 5 b then 1 else 0)) ∧ M' = M) := by
  refine ct_122 rfl ?_
  refine aw_122_0 ?_
  refine aw_122_4 ?_
  refine br_ge_n (by decide) (by decide) (by decide) ?_
  refine ⟨1, 0, by first | decide | omega, by first | decide | omega, en_Ct_t (R_within 5 0 5 (by decide) (by decide) (by decide) _) (by decide) ?_⟩
  refine br_eq_n (by decide) (by decide) (by decide) ?_
  refine br_ne (a := 5) (b := b) (by omega) (by omega) (fun q3 => ?_) (fun q3 => ?_)
  · refine aw_122_26 ?_
    refine ⟨5, rfl, (show 5 < 6 by omega), ?_⟩
    refine aw_122_4 ?_
    refine br_ge_n (by decide) (by decide) (by decide) ?_
    refine ⟨1, 0, by first | decide | omega, by first | decide | omega, en_Ct_t (R_within 2 0 5 (by decide) (by decide) (by decide) _) (by decide) ?_⟩
    refine br_eq_n (by decide) (by decide) (by decide) ?_
    refine br_ne (a := 2) (b := b) (by omega) (by omega) (fun q6 => ?_) (fun q6 => ?_)
    · refine aw_122_26 ?_
      refine ⟨2, rfl, (show 2 < 6 by omega), ?_⟩
      refine aw_122_4 ?_
      refine br_ge_n (by decide) (by decide) (by decide) ?_
      refine ⟨1, 0, by first | decide | omega, by first | decide | omega, en_Ct_t (R_within 0 0 5 (by decide) (by decide) (by decide) _) (by decide) ?_⟩
      refine br_eq_n (by decide) (by decide) (by decide) ?_
      refine br_ne (a := 0) (b := b) (by omega) (by omega) (fun q9 => ?_) (fun q9 => ?_)
      · refine aw_122_26 ?_
        refine ⟨0, rfl, (show 0 < 6 by omega), ?_⟩
        refine aw_122_4 ?_
        refine br_ge_n (by decide) (by decide) (by decide) ?_
        refine ⟨1, 0, by first | decide | omega, by first | decide | omega, en_Ct_f (R_within (-1) 0 5 (by decide) (by decide) (by decide) _) (by decide) ?_⟩
        refine br_eq_y (by decide) (by decide) (by decide) ?_
        refine aw_122_38 ?_
        exact ⟨Or.inl rfl, by rw [if_neg (by unfold und; omega)], rfl⟩
      · exact ⟨Or.inr rfl, by rw [if_pos (by unfold und; omega)], rfl⟩
    · exact ⟨Or.inr rfl, by rw [if_pos (by unfold und; omega)], rfl⟩
  · exact ⟨Or.inr rfl, by rw [if_pos (by unfold und; omega)], rfl⟩
theorem R_und (a b : Int) (ha : 0 ≤ a ∧ a ≤ 5) (hb : 0 ≤ b ∧ b ≤ 5) (M : Mm) : en_Ct 2 0 122 [.inl a, .inl b] M (fun r M' => r = some (.inl (if und a b then 1 else 0)) ∧ M' = M) := by
  rcases (show a = 0 ∨ a = 1 ∨ a = 2 ∨ a = 3 ∨ a = 4 ∨ a = 5 by omega) with rfl | rfl | rfl | rfl | rfl | rfl
  · exact R_und0 b hb M
  · exact R_und1 b hb M
  · exact R_und2 b hb M
  · exact R_und3 b hb M
  · exact R_und4 b hb M
  · exact R_und5 b hb M
theorem R_undM (a b : Int) (ha : 0 ≤ a ∧ a ≤ 5) (hb : 0 ≤ b ∧ b ≤ 5) (M : Mm) : en_Ct 1 0 153 [.inl a, .inl b] M (fun r M' => r = some (.inl (if und a b then 1 else 0)) ∧ M' = M) := by
  refine ct_153 rfl ?_
  refine aw_153_0 ?_
  refine br_eq (a := b) (b := 0) (by omega) (by omega) (fun q1 => ?_) (fun q1 => ?_)
  · refine aw_153_29 ?_
    refine aw_153_34 ?_
    exact ⟨Or.inr rfl, by rw [if_pos (by unfold und; omega)], rfl⟩
  · refine br_eq (a := a) (b := b) (by omega) (by omega) (fun q2 => ?_) (fun q2 => ?_)
    · refine aw_153_29 ?_
      refine aw_153_34 ?_
      exact ⟨Or.inr rfl, by rw [if_pos (by unfold und; omega)], rfl⟩
    · refine br_ne (a := b) (b := 1) (by omega) (by omega) (fun q3 => ?_) (fun q3 => ?_)
      · refine aw_153_19 ?_
        refine br_ne (a := b) (b := 2) (by omega) (by omega) (fun q4 => ?_) (fun q4 => ?_)
        · refine aw_153_33 ?_
          refine aw_153_34 ?_
          exact ⟨Or.inl rfl, by rw [if_neg (by unfold und; omega)], rfl⟩
        · refine br_ne (a := a) (b := 5) (by omega) (by omega) (fun q5 => ?_) (fun q5 => ?_)
          · refine aw_153_33 ?_
            refine aw_153_34 ?_
            exact ⟨Or.inl rfl, by rw [if_neg (by unfold und; omega)], rfl⟩
          · refine aw_153_29 ?_
            refine aw_153_34 ?_
            exact ⟨Or.inr rfl, by rw [if_pos (by unfold und; omega)], rfl⟩
      · refine br_eq (a := a) (b := 3) (by omega) (by omega) (fun q6 => ?_) (fun q6 => ?_)
        · refine aw_153_29 ?_
          refine aw_153_34 ?_
          exact ⟨Or.inr rfl, by rw [if_pos (by unfold und; omega)], rfl⟩
        · refine aw_153_19 ?_
          refine br_ne (a := b) (b := 2) (by omega) (by omega) (fun q7 => ?_) (fun q7 => ?_)
          · refine aw_153_33 ?_
            refine aw_153_34 ?_
            exact ⟨Or.inl rfl, by rw [if_neg (by unfold und; omega)], rfl⟩
          · refine br_ne (a := a) (b := 5) (by omega) (by omega) (fun q8 => ?_) (fun q8 => ?_)
            · refine aw_153_33 ?_
              refine aw_153_34 ?_
              exact ⟨Or.inl rfl, by rw [if_neg (by unfold und; omega)], rfl⟩
            · refine aw_153_29 ?_
              refine aw_153_34 ?_
              exact ⟨Or.inr rfl, by rw [if_pos (by unfold und; omega)], rfl⟩
theorem L_swM1 {post : Option AV → Mm → Prop} (E : Ev) (M : Mm) (hJ : isM M 84 E) (hg : s_ok E) (w j : Nat) (hw24 : w < 24) (hj : j < 4) : ∀ (n : Nat) (i : Nat) (c : Nat), (((i : Nat) : Int) + ((n : Nat) : Int) = E.1 14 j) → (en_AW 1 0 154 post 53 [some (.inr (.inr (1, 6, 84))), some (.inl ((w : Nat) : Int)), some (.inl ((c + (shl (M.1 (109 + 1 * j)) i n).count w : Nat) : Int)), some (.inl ((j : Nat) : Int)), none] [] M 0) → en_AW 1 0 154 post 15 [some (.inr (.inr (1, 6, 84))), some (.inl ((w : Nat) : Int)), some (.inl ((c : Nat) : Int)), some (.inl ((j : Nat) : Int)), some (.inl ((i : Nat) : Int))] [] M 0 := by
  intro n
  induction n with
  | zero =>
    intro i c hi hx
    obtain ⟨n0, n1, n2, a0, a1, a2, a3, a4, a5, a6, a7⟩ := hg.1
    have r0 : M.1 84 9 = E.1 0 0 := hJ.1.1
    have r1 : M.1 84 10 = E.1 0 1 := hJ.1.2.1
    have r2 : M.1 84 18 = E.1 0 2 := hJ.1.2.2.1
    have e14 : M.1 113 j = E.1 14 j := congrFun hJ.2.1.2.1 j
    obtain ⟨s1, s2⟩ := hg.2.2.1 j hj
    have er : M.1 (109 + 1 * j) = E.2 j := hJ.2.2 j hj
    refine aw_154_15 ?_
    refine ⟨j, rfl, (show j < 4 by omega), ?_⟩
    refine br_ge_y (a := ((i : Nat) : Int)) (b := M.1 113 j) (by omega) (by omega) (by omega) ?_
    refine en_AW_drop [true, true, true, true, false] ?_
    exact hx
  | succ n ih =>
    intro i c hi hx
    obtain ⟨n0, n1, n2, a0, a1, a2, a3, a4, a5, a6, a7⟩ := hg.1
    have r0 : M.1 84 9 = E.1 0 0 := hJ.1.1
    have r1 : M.1 84 10 = E.1 0 1 := hJ.1.2.1
    have r2 : M.1 84 18 = E.1 0 2 := hJ.1.2.2.1
    have e14 : M.1 113 j = E.1 14 j := congrFun hJ.2.1.2.1 j
    obtain ⟨s1, s2⟩ := hg.2.2.1 j hj
    have er : M.1 (109 + 1 * j) = E.2 j := hJ.2.2 j hj
    obtain ⟨x0, x1⟩ := s2 i (by omega)
    rw [← er] at x0 x1
    refine aw_154_15 ?_
    refine ⟨j, rfl, (show j < 4 by omega), ?_⟩
    refine br_ge_n (a := ((i : Nat) : Int)) (b := M.1 113 j) (by omega) (by omega) (by omega) ?_
    refine ⟨j, rfl, (show j < 4 by omega), ?_⟩
    refine ⟨i, rfl, (show i < 5 by omega), ?_⟩
    refine br_ne (a := M.1 (109 + 1 * j) i) (b := ((w : Nat) : Int)) (by omega) (by omega) (fun q2 => ?_) (fun q2 => ?_)
    · refine aw_154_44 ?_
      refine aw_154_45 ?_
      refine en_AW_ls (congrArg (fun z_ : Int => ([some (.inr (.inr (1, 6, 84))), some (.inl ((w : Nat) : Int)), some (.inl z_), some (.inl ((j : Nat) : Int)), some (.inl (((i : Nat) : Int) + 1))] : AL)) (show ((c : Nat) : Int) + 0 = ((c : Nat) : Int) from by omega)) ?_
      exact ih (i + 1) c (by omega) (by rw [cnt_f (by omega)] at hx; exact hx)
    · refine aw_154_45 ?_
      refine en_AW_ls (congrArg (fun z_ : Int => ([some (.inr (.inr (1, 6, 84))), some (.inl ((w : Nat) : Int)), some (.inl z_), some (.inl ((j : Nat) : Int)), some (.inl (((i : Nat) : Int) + 1))] : AL)) (show ((c : Nat) : Int) + 1 = ((c + 1 : Nat) : Int) from by omega)) ?_
      exact ih (i + 1) (c + 1) (by omega) (by rw [cnt_t (by omega), show c + ((shl (M.1 (109 + 1 * j)) (i + 1) n).count w + 1) = c + 1 + (shl (M.1 (109 + 1 * j)) (i + 1) n).count w by omega] at hx; exact hx)
theorem L_swM {post : Option AV → Mm → Prop} (E : Ev) (M : Mm) (hJ : isM M 84 E) (hg : s_ok E) (w : Nat) (hw24 : w < 24) (hq : post (some (.inl ((s_sw E w (E.1 0 2).toNat : Nat) : Int))) M) : ∀ (n : Nat) (j : Nat), (((j : Nat) : Int) + ((n : Nat) : Int) = E.1 0 2) → en_AW 1 0 154 post 4 [some (.inr (.inr (1, 6, 84))), some (.inl ((w : Nat) : Int)), some (.inl ((s_sw E w j : Nat) : Int)), some (.inl ((j : Nat) : Int)), none] [] M 0 := by
  intro n
  induction n with
  | zero =>
    intro j hi
    obtain ⟨n0, n1, n2, a0, a1, a2, a3, a4, a5, a6, a7⟩ := hg.1
    have r0 : M.1 84 9 = E.1 0 0 := hJ.1.1
    have r1 : M.1 84 10 = E.1 0 1 := hJ.1.2.1
    have r2 : M.1 84 18 = E.1 0 2 := hJ.1.2.2.1
    refine aw_154_4 ?_
    refine br_ge_y (a := ((j : Nat) : Int)) (b := M.1 84 18) (by omega) (by omega) (by omega) ?_
    refine aw_154_59 ?_
    rw [show (E.1 0 2).toNat = j by omega] at hq
    exact hq
  | succ n ih =>
    intro j hi
    obtain ⟨n0, n1, n2, a0, a1, a2, a3, a4, a5, a6, a7⟩ := hg.1
    have r0 : M.1 84 9 = E.1 0 0 := hJ.1.1
    have r1 : M.1 84 10 = E.1 0 1 := hJ.1.2.1
    have r2 : M.1 84 18 = E.1 0 2 := hJ.1.2.2.1
    obtain ⟨s1, s2⟩ := hg.2.2.1 j (by omega)
    refine aw_154_4 ?_
    refine br_ge_n (a := ((j : Nat) : Int)) (b := M.1 84 18) (by omega) (by omega) (by omega) ?_
    refine L_swM1 E M hJ hg w j hw24 (by omega) (E.1 14 j).toNat 0 (s_sw E w j) (by omega) (aw_154_53 ?_)
    rw [show shl (M.1 (109 + 1 * j)) 0 (E.1 14 j).toNat = s_shl E j by rw [show M.1 (109 + 1 * j) = E.2 j from hJ.2.2 j (by omega)]; rfl]
    exact ih (j + 1) (by omega)
theorem R_swM (E : Ev) (M : Mm) (hJ : isM M 84 E) (hg : s_ok E) (w : Nat) (hw24 : w < 24) : en_Ct 1 0 154 [.inr (.inr (1, 6, 84)), .inl ((w : Nat) : Int)] M (fun r M' => r = some (.inl (((s_sw E w (E.1 0 2).toNat : Nat) : Int))) ∧ M' = M) := by
  refine ct_154 rfl ?_
  refine aw_154_0 ?_
  exact L_swM E M hJ hg w hw24 ⟨rfl, rfl⟩ (E.1 0 2).toNat 0 (by have := hg.1.2.2.1; omega)
theorem tr_sw {M : Mm} {e : Nat} {E : Ev} (h : isE M e E) {w : Nat} : ∀ n, n ≤ 4 → s_sw (vE M e) w n = s_sw E w n
  | 0, _ => rfl
  | n + 1, hn => by rw [s_sw, s_sw, tr_sw h n (by omega), tr_shl h (by omega)]
theorem X_sw {M : Mm} {E : Ev} (h : isE M 1 E) (hg : s_ok E) {x : Int} (h0 : 0 ≤ x) (h1 : x < 24) : en_Ct 1 0 25 [.inr (.inr (1, 1, 1)), .inl x] M (fun r M' => r = some (.inl ((s_sw E x.toNat (E.1 0 2).toNat : Nat) : Int)) ∧ M' = M) := by
  have := R_sw 1 M (tr_num h hg.1) (tr_wok h hg.2.1) (fun p hp => tr_sh h hp (hg.2.2.1 p hp)) x.toNat (by omega)
  rw [show ((x.toNat : Nat) : Int) = x by omega, r0_I h, tr_sw h _ (ok_pp hg)] at this
  exact this
theorem M_sw {M : Mm} {E : Ev} (h : isM M 84 E) (hg : s_ok E) {x : Int} (h0 : 0 ≤ x) (h1 : x < 24) : en_Ct 1 0 154 [.inr (.inr (1, 6, 84)), .inl x] M (fun r M' => r = some (.inl ((s_sw E x.toNat (E.1 0 2).toNat : Nat) : Int)) ∧ M' = M) := by
  have := R_swM E M h hg x.toNat (by omega)
  rw [show ((x.toNat : Nat) : Int) = x by omega] at this
  exact this
def s_km (E : Ev) (w : Nat) : Int := if (E.1 0 2 + 1) / 2 - ((s_pc (E.1 7 w).toNat : Nat) : Int) < 0 then 0 else (E.1 0 2 + 1) / 2 - ((s_pc (E.1 7 w).toNat : Nat) : Int)
theorem X_km {M : Mm} {E : Ev} (h : isE M 1 E) (hg : s_ok E) {x : Int} (h0 : 0 ≤ x) (h1 : x < E.1 0 1) : en_Ct 2 0 26 [.inr (.inr (1, 1, 1)), .inl x] M (fun r M' => r = some (.inl (s_km E x.toNat)) ∧ M' = M) := by
  have := R_knowersMissing 1 x.toNat M (by have := hg.1.2.1; omega) (tr_word h (hg.2.1 x.toNat (by omega))) (tr_num h hg.1)
  rw [show ((x.toNat : Nat) : Int) = x by omega, r0_I h, show M.1 (1 + 7) = E.1 7 from h.1 7 (by decide)] at this
  exact this
def vSay (E : Ev) (w : Nat) (k : Int) : Int := if k = 1 then ((s_sw E w (E.1 0 2).toNat : Nat) : Int) else if k = 2 then ((s_pc (E.1 7 w).toNat : Nat) : Int) else if k = 3 then (if s_sw E w (E.1 0 2).toNat = 1 then 1 else 0) else if k = 4 then s_km E w else if k = 5 then E.1 6 w else s_cost E w
def a_says (M : Mm) (E : Ev) (s k : Int) : Nat × Int := if (0 ≤ s ∧ s ≤ 7) ∧ (0 ≤ k ∧ k ≤ 5) then (if 0 ≤ M.1 (68 + 2 * s.toNat) 0 ∧ M.1 (68 + 2 * s.toNat) 0 ≤ 4 then (2, -3) else if M.1 (68 + 2 * s.toNat) 0 = 10 then (if und (E.1 2 (M.1 (68 + 2 * s.toNat) 2).toNat) k then (0, vSay E (M.1 (68 + 2 * s.toNat) 2).toNat k) else (2, -3)) else (3, -4)) else (1, -2)
def a_saysM (M : Mm) (E : Ev) (s k : Int) : Nat × Int := if (0 ≤ s ∧ s ≤ 7) ∧ (0 ≤ k ∧ k ≤ 5) then (if M.1 85 s.toNat = 1 then (2, -3) else if M.1 85 s.toNat = 2 then (if und (E.1 2 (M.1 98 s.toNat).toNat) k then (0, vSay E (M.1 98 s.toNat).toNat k) else (2, -3)) else (3, -4)) else (1, -2)
theorem R_wtf (E : Ev) (M : Mm) (hI : isE M 1 E) (hg : s_ok E) (x k : Int) (h0 : 0 ≤ x) (h1 : x < E.1 0 1) (hk : 0 ≤ k ∧ k ≤ 5) : en_Ct 4 0 130 [.inr (.inr (1, 5, 0)), .inl x, .inl k] M (fun r M' => r = some (.inl (vSay E x.toNat k)) ∧ M' = M) := by
  obtain ⟨n0, n1, n2, a0, a1, a2, a3, a4, a5, a6, a7⟩ := hg.1
  have r0 : M.1 1 0 = E.1 0 0 := r0_I hI 0
  have r1 : M.1 1 1 = E.1 0 1 := r0_I hI 1
  have r2 : M.1 1 2 = E.1 0 2 := r0_I hI 2
  obtain ⟨k1, k2, k3, k4, k5, k6, k7⟩ := hg.2.1 x.toNat (by omega)
  have e7 : M.1 8 x.toNat = E.1 7 x.toNat := congrFun (hI.1 7 (by decide)) _
  have e6 : M.1 7 x.toNat = E.1 6 x.toNat := congrFun (hI.1 6 (by decide)) _
  refine ct_130 rfl ?_
  refine aw_130_0 ?_
  refine tb_i (a := k) (by omega) ?_
  refine ⟨fun q1 => ?_, fun q1 => ?_⟩
  · refine aw_130_36 ?_
    refine ⟨1, 0, by first | decide | omega, by first | decide | omega, en_Ct_eq (X_sw (M := M) (E := E) hI hg (x := x) (by omega) (by omega)) ?_⟩
    have sb2 := s_sw_le (E := E) (w := x.toNat) (E.1 0 2).toNat (ok_pp hg) hg.2.2.1
    refine ⟨congrArg (fun z => some (Sum.inl z)) (show (((s_sw E x.toNat (E.1 0 2).toNat : Nat) : Int) : Int) = vSay E x.toNat k from ?_), rfl⟩
    unfold vSay
    repeat first | rw [if_pos (by omega)] | rw [if_neg (by omega)]
    first | done | rfl | (rw [e7]; done) | (rw [e6]; done)
  · refine ⟨fun q3 => ?_, fun q3 => ?_⟩
    · refine aw_130_45 ?_
      refine ⟨x.toNat, it_nn (x := x) (by omega), (show x.toNat < 24 by omega), ?_⟩
      refine ⟨1, 0, by first | decide | omega, by first | decide | omega, en_Ct_eq (R_bitCount' (M.1 8 x.toNat) (by omega) (by omega) _) ?_⟩
      have pb4 := s_pc_b (n := ((M.1 8 x.toNat).toNat))
      refine ⟨congrArg (fun z => some (Sum.inl z)) (show (((s_pc ((M.1 8 x.toNat).toNat) : Nat) : Int) : Int) = vSay E x.toNat k from ?_), rfl⟩
      unfold vSay
      repeat first | rw [if_pos (by omega)] | rw [if_neg (by omega)]
      first | done | rfl | (rw [e7]; done) | (rw [e6]; done)
    · refine ⟨fun q5 => ?_, fun q5 => ?_⟩
      · refine aw_130_58 ?_
        refine ⟨1, 0, by first | decide | omega, by first | decide | omega, en_Ct_eq (X_sw (M := M) (E := E) hI hg (x := x) (by omega) (by omega)) ?_⟩
        have sb6 := s_sw_le (E := E) (w := x.toNat) (E.1 0 2).toNat (ok_pp hg) hg.2.2.1
        refine br_ne (a := ((s_sw E x.toNat (E.1 0 2).toNat : Nat) : Int)) (b := 1) (by omega) (by omega) (fun q7 => ?_) (fun q7 => ?_)
        · refine aw_130_74 ?_
          refine aw_130_75 ?_
          refine ⟨congrArg (fun z => some (Sum.inl z)) (show (0 : Int) = vSay E x.toNat k from ?_), rfl⟩
          unfold vSay
          repeat first | rw [if_pos (by omega)] | rw [if_neg (by omega)]
          first | done | rfl | (rw [e7]; done) | (rw [e6]; done)
        · refine aw_130_75 ?_
          refine ⟨congrArg (fun z => some (Sum.inl z)) (show (1 : Int) = vSay E x.toNat k from ?_), rfl⟩
          unfold vSay
          repeat first | rw [if_pos (by omega)] | rw [if_neg (by omega)]
          first | done | rfl | (rw [e7]; done) | (rw [e6]; done)
      · refine ⟨fun q8 => ?_, fun q8 => ?_⟩
        · refine aw_130_76 ?_
          refine ⟨2, 0, by first | decide | omega, by first | decide | omega, en_Ct_eq (X_km (M := M) (E := E) hI hg (x := x) (by omega) (by omega)) ?_⟩
          refine ⟨congrArg (fun z => some (Sum.inl z)) (show (s_km E x.toNat : Int) = vSay E x.toNat k from ?_), rfl⟩
          unfold vSay
          repeat first | rw [if_pos (by omega)] | rw [if_neg (by omega)]
          first | done | rfl | (rw [e7]; done) | (rw [e6]; done)
        · refine ⟨fun q9 => ?_, fun q9 => ?_⟩
          · refine aw_130_85 ?_
            refine ⟨x.toNat, it_nn (x := x) (by omega), (show x.toNat < 24 by omega), ?_⟩
            refine ⟨congrArg (fun z => some (Sum.inl z)) (show (M.1 7 x.toNat : Int) = vSay E x.toNat k from ?_), rfl⟩
            unfold vSay
            repeat first | rw [if_pos (by omega)] | rw [if_neg (by omega)]
            first | done | rfl | (rw [e7]; done) | (rw [e6]; done)
          · refine aw_130_95 ?_
            refine ⟨1, 0, by first | decide | omega, by first | decide | omega, en_Ct_eq (W_cost (M := M) (e := 1) (E := E) hI hg (x := x) (by omega) (by omega)) ?_⟩
            have cb10 := s_cost_b (hg.2.1 x.toNat (by omega))
            refine ⟨congrArg (fun z => some (Sum.inl z)) (show (s_cost E x.toNat : Int) = vSay E x.toNat k from ?_), rfl⟩
            unfold vSay
            repeat first | rw [if_pos (by omega)] | rw [if_neg (by omega)]
            first | done | rfl | (rw [e7]; done) | (rw [e6]; done)
theorem sh_X4 {M : Mm} (h : cS M) {k : Nat} (hk : k < 8) (h0 : M.1 (68 + 2 * k) 0 = 10) : 0 ≤ M.1 (68 + 2 * k) 2 ∧ M.1 (68 + 2 * k) 2 < M.1 1 1 := by
  rcases h k hk with z | z | z
  · omega
  · have := z.2.1
    omega
  · exact z.2.2.2
theorem PX_says (E : Ev) (M : Mm) (hI : isE M 1 E) (hg : s_ok E) (hS : cS M) (s k : Int) (hs : -2147483648 ≤ s ∧ s < 2147483648) (hk : -2147483648 ≤ k ∧ k < 2147483648) : en_Ct 9 0 74 [.inr (.inr (1, 5, 0)), .inl s, .inl k] M (fun r M' => r = some (.inl (a_says M E s k).2) ∧ sX (aX M (a_says M E s k).1) M') := by
  obtain ⟨n0, n1, n2, a0, a1, a2, a3, a4, a5, a6, a7⟩ := hg.1
  have r0 : M.1 1 0 = E.1 0 0 := r0_I hI 0
  have r1 : M.1 1 1 = E.1 0 1 := r0_I hI 1
  have r2 : M.1 1 2 = E.1 0 2 := r0_I hI 2
  have hA : (0 ≤ s ∧ s ≤ 7) → (-1 ≤ M.1 (68 + 2 * s.toNat) 0 ∧ M.1 (68 + 2 * s.toNat) 0 ≤ 10) := fun z => sh_X hS (by omega)
  have hw : (0 ≤ s ∧ s ≤ 7) → M.1 (68 + 2 * s.toNat) 0 = 10 → 0 ≤ M.1 (68 + 2 * s.toNat) 2 ∧ M.1 (68 + 2 * s.toNat) 2 < E.1 0 1 := fun z z2 => by
    have := sh_X4 hS (k := s.toNat) (by omega) z2
    omega
  have e2 : M.1 3 = E.1 2 := hI.1 2 (by decide)
  have hkd : (0 ≤ s ∧ s ≤ 7) → M.1 (68 + 2 * s.toNat) 0 = 10 → 0 ≤ E.1 2 (M.1 (68 + 2 * s.toNat) 2).toNat ∧ E.1 2 (M.1 (68 + 2 * s.toNat) 2).toNat ≤ 5 := fun z z2 => (hg.2.1 _ (by have := hw z z2; omega)).1
  refine ct_74 rfl ?_
  refine aw_74_0 ?_
  by_cases c1 : 0 ≤ s ∧ s ≤ 7
  · refine ⟨2, 0, by first | decide | omega, by first | decide | omega, en_Ct_t (R_isShelf s (by omega) _) c1 ?_⟩
    refine br_eq_n (by decide) (by decide) (by decide) ?_
    by_cases c3 : 0 ≤ k ∧ k ≤ 5
    · refine ⟨1, 0, by first | decide | omega, by first | decide | omega, en_Ct_t (R_within k 0 5 (by omega) (by omega) (by omega) _) c3 ?_⟩
      refine br_ne_y (by decide) (by decide) (by decide) ?_
      refine aw_74_23 ?_
      refine ⟨s.toNat, it_nn (x := s) (by omega), (show s.toNat < 8 by omega), ?_⟩
      by_cases c5 : 0 ≤ M.1 (68 + 2 * s.toNat) 0 ∧ M.1 (68 + 2 * s.toNat) 0 ≤ 4
      · refine ⟨2, 0, by first | decide | omega, by first | decide | omega, en_Ct_t (R_hasRow (68 + 2 * s.toNat) M (by omega)) c5 ?_⟩
        refine br_eq_n (by decide) (by decide) (by decide) ?_
        refine ⟨2, 0, by first | decide | omega, by first | decide | omega, en_Ct_eq (R_refX (-3) (by omega) M) ?_⟩
        have ha : a_says M E s k = (2, (-3)) := by
          unfold a_says
          repeat first | rw [if_pos (by omega)] | rw [if_neg (by omega)] | rw [if_pos ‹und _ _›] | rw [if_neg ‹¬ und _ _›]
        rw [ha]
        exact ⟨rfl, sX_rfl⟩
      · refine ⟨2, 0, by first | decide | omega, by first | decide | omega, en_Ct_f (R_hasRow (68 + 2 * s.toNat) M (by omega)) c5 ?_⟩
        refine br_eq_y (by decide) (by decide) (by decide) ?_
        refine aw_74_44 ?_
        by_cases c8 : M.1 (68 + 2 * s.toNat) 0 = 10
        · refine ⟨1, 0, by first | decide | omega, by first | decide | omega, en_Ct_t (R_hasWord (68 + 2 * s.toNat) M (by omega)) c8 ?_⟩
          refine br_ne_y (by decide) (by decide) (by decide) ?_
          refine aw_74_58 ?_
          have hww := hw (by omega) (by omega)
          refine ⟨(M.1 (68 + 2 * s.toNat) 2).toNat, it_nn (x := M.1 (68 + 2 * s.toNat) 2) (by omega), (show (M.1 (68 + 2 * s.toNat) 2).toNat < 24 by omega), ?_⟩
          have hu2 : en_Ct 2 0 122 [.inl (M.1 3 (M.1 (68 + 2 * s.toNat) 2).toNat), .inl k] M (fun r M' => r = some (.inl (if und (E.1 2 (M.1 (68 + 2 * s.toNat) 2).toNat) k then 1 else 0)) ∧ M' = M) := by
            rw [show M.1 3 (M.1 (68 + 2 * s.toNat) 2).toNat = E.1 2 (M.1 (68 + 2 * s.toNat) 2).toNat from congrFun e2 _]
            exact R_und (E.1 2 (M.1 (68 + 2 * s.toNat) 2).toNat) k (hkd (by omega) (by omega)) (by omega) M
          by_cases c10 : und (E.1 2 (M.1 (68 + 2 * s.toNat) 2).toNat) k
          · refine ⟨2, 0, by first | decide | omega, by first | decide | omega, en_Ct_t hu2 c10 ?_⟩
            refine br_ne_y (by decide) (by decide) (by decide) ?_
            refine aw_74_84 ?_
            refine ⟨4, 0, by first | decide | omega, by first | decide | omega, en_Ct_eq (R_wtf E M hI hg (M.1 (68 + 2 * s.toNat) 2) k (by omega) (by omega) (by omega)) ?_⟩
            have ha : a_says M E s k = (0, vSay E ((M.1 (68 + 2 * s.toNat) 2).toNat) k) := by
              unfold a_says
              repeat first | rw [if_pos (by omega)] | rw [if_neg (by omega)] | rw [if_pos ‹und _ _›] | rw [if_neg ‹¬ und _ _›]
            rw [ha]
            exact ⟨rfl, sX_rfl⟩
          · refine ⟨2, 0, by first | decide | omega, by first | decide | omega, en_Ct_f hu2 c10 ?_⟩
            refine br_ne_n (by decide) (by decide) (by decide) ?_
            refine ⟨2, 0, by first | decide | omega, by first | decide | omega, en_Ct_eq (R_refX (-3) (by omega) M) ?_⟩
            have ha : a_says M E s k = (2, (-3)) := by
              unfold a_says
              repeat first | rw [if_pos (by omega)] | rw [if_neg (by omega)] | rw [if_pos ‹und _ _›] | rw [if_neg ‹¬ und _ _›]
            rw [ha]
            exact ⟨rfl, sX_rfl⟩
        · refine ⟨1, 0, by first | decide | omega, by first | decide | omega, en_Ct_f (R_hasWord (68 + 2 * s.toNat) M (by omega)) c8 ?_⟩
          refine br_ne_n (by decide) (by decide) (by decide) ?_
          refine ⟨2, 0, by first | decide | omega, by first | decide | omega, en_Ct_eq (R_refX (-4) (by omega) M) ?_⟩
          have ha : a_says M E s k = (3, (-4)) := by
            unfold a_says
            repeat first | rw [if_pos (by omega)] | rw [if_neg (by omega)] | rw [if_pos ‹und _ _›] | rw [if_neg ‹¬ und _ _›]
          rw [ha]
          exact ⟨rfl, sX_rfl⟩
    · refine ⟨1, 0, by first | decide | omega, by first | decide | omega, en_Ct_f (R_within k 0 5 (by omega) (by omega) (by omega) _) c3 ?_⟩
      refine br_ne_n (by decide) (by decide) (by decide) ?_
      refine aw_74_16 ?_
      refine ⟨2, 0, by first | decide | omega, by first | decide | omega, en_Ct_eq (R_refX (-2) (by omega) M) ?_⟩
      have ha : a_says M E s k = (1, (-2)) := by
        unfold a_says
        repeat first | rw [if_pos (by omega)] | rw [if_neg (by omega)] | rw [if_pos ‹und _ _›] | rw [if_neg ‹¬ und _ _›]
      rw [ha]
      exact ⟨rfl, sX_rfl⟩
  · refine ⟨2, 0, by first | decide | omega, by first | decide | omega, en_Ct_f (R_isShelf s (by omega) _) c1 ?_⟩
    refine br_eq_y (by decide) (by decide) (by decide) ?_
    refine aw_74_16 ?_
    refine ⟨2, 0, by first | decide | omega, by first | decide | omega, en_Ct_eq (R_refX (-2) (by omega) M) ?_⟩
    have ha : a_says M E s k = (1, (-2)) := by
      unfold a_says
      repeat first | rw [if_pos (by omega)] | rw [if_neg (by omega)] | rw [if_pos ‹und _ _›] | rw [if_neg ‹¬ und _ _›]
    rw [ha]
    exact ⟨rfl, sX_rfl⟩
theorem PM_says (E : Ev) (M : Mm) (hJ : isM M 84 E) (hg : s_ok E) (hA : ∀ k : Nat, k < 8 → 0 ≤ M.1 85 k ∧ M.1 85 k ≤ 2) (hw8 : ∀ k : Nat, k < 8 → M.1 85 k = 2 → 0 ≤ M.1 98 k ∧ M.1 98 k < E.1 0 1) (s k : Int) (hs : -2147483648 ≤ s ∧ s < 2147483648) (hk : -2147483648 ≤ k ∧ k < 2147483648) : en_Ct 9 0 155 [.inr (.inr (1, 6, 84)), .inl s, .inl k] M (fun r M' => r = some (.inl (a_saysM M E s k).2) ∧ sM (aM M (a_saysM M E s k).1) M') := by
  obtain ⟨n0, n1, n2, a0, a1, a2, a3, a4, a5, a6, a7⟩ := hg.1
  have r0 : M.1 84 9 = E.1 0 0 := hJ.1.1
  have r1 : M.1 84 10 = E.1 0 1 := hJ.1.2.1
  have r2 : M.1 84 18 = E.1 0 2 := hJ.1.2.2.1
  have hdv : en_div (M.1 84 18 + 1) 2 = (M.1 84 18 + 1) / 2 := nu_half (by omega) (by omega)
  have hA1 : (0 ≤ s ∧ s ≤ 7) → (0 ≤ M.1 85 s.toNat ∧ M.1 85 s.toNat ≤ 2) := fun z => hA _ (by omega)
  have hw : (0 ≤ s ∧ s ≤ 7) → M.1 85 s.toNat = 2 → 0 ≤ M.1 98 s.toNat ∧ M.1 98 s.toNat < E.1 0 1 := fun z => hw8 _ (by omega)
  have e2 : M.1 101 = E.1 2 := hJ.2.1.2.2.2 2 (by decide) (by decide)
  have e7 : M.1 106 (M.1 98 s.toNat).toNat = E.1 7 (M.1 98 s.toNat).toNat := congrFun (hJ.2.1.2.2.2 7 (by decide) (by decide)) _
  have e6 : M.1 105 (M.1 98 s.toNat).toNat = E.1 6 (M.1 98 s.toNat).toNat := congrFun (hJ.2.1.2.2.2 6 (by decide) (by decide)) _
  have hkd : (0 ≤ s ∧ s ≤ 7) → M.1 85 s.toNat = 2 → 0 ≤ E.1 2 (M.1 98 s.toNat).toNat ∧ E.1 2 (M.1 98 s.toNat).toNat ≤ 5 := fun z z2 => (hg.2.1 _ (by have := hw z z2; omega)).1
  have hk7 : (0 ≤ s ∧ s ≤ 7) → M.1 85 s.toNat = 2 → 0 ≤ E.1 7 (M.1 98 s.toNat).toNat ∧ E.1 7 (M.1 98 s.toNat).toNat < 16 := fun z z2 => (hg.2.1 _ (by have := hw z z2; omega)).2.2.2.2.2.1
  refine ct_155 rfl ?_
  refine aw_155_0 ?_
  by_cases c1 : 0 ≤ s ∧ s ≤ 7
  · refine ⟨1, 0, by first | decide | omega, by first | decide | omega, en_Ct_t (R_in (en_wr s) 0 7 s 0 7 (wl_wr ⟨by omega, by omega⟩) (wl_of ⟨by omega, by omega⟩) (wl_of ⟨by omega, by omega⟩) _) c1 ?_⟩
    refine br_eq_n (by decide) (by decide) (by decide) ?_
    by_cases c3 : 0 ≤ k ∧ k ≤ 5
    · refine ⟨1, 0, by first | decide | omega, by first | decide | omega, en_Ct_t (R_in (en_wr k) 0 5 k 0 5 (wl_wr ⟨by omega, by omega⟩) (wl_of ⟨by omega, by omega⟩) (wl_of ⟨by omega, by omega⟩) _) c3 ?_⟩
      refine br_ne_y (by decide) (by decide) (by decide) ?_
      refine aw_155_31 ?_
      refine ⟨s.toNat, it_nn (x := s) (by omega), (show s.toNat < 8 by omega), ?_⟩
      refine br_eq (a := M.1 85 s.toNat) (b := 1) (by omega) (by omega) (fun q5 => ?_) (fun q5 => ?_)
      · refine aw_155_69 ?_
        refine ⟨1, 0, by first | decide | omega, by first | decide | omega, en_Ct_eq (R_refM (-3) (by omega) M) ?_⟩
        first
          | exfalso
            omega
          | have ha : a_saysM M E s k = (2, (-3)) := by
              unfold a_saysM
              repeat first | rw [if_pos (by omega)] | rw [if_neg (by omega)] | rw [if_pos ‹und _ _›] | rw [if_neg ‹¬ und _ _›]
            rw [ha]
            exact ⟨rfl, sM_rfl⟩
      · refine ⟨s.toNat, it_nn (x := s) (by omega), (show s.toNat < 8 by omega), ?_⟩
        refine br_ne (a := M.1 85 s.toNat) (b := 2) (by omega) (by omega) (fun q6 => ?_) (fun q6 => ?_)
        · refine aw_155_76 ?_
          refine ⟨s.toNat, it_nn (x := s) (by omega), (show s.toNat < 8 by omega), ?_⟩
          refine br_ne (a := M.1 85 s.toNat) (b := 0) (by omega) (by omega) (fun q7 => ?_) (fun q7 => ?_)
          · refine aw_155_92 ?_
            have hww : M.1 85 s.toNat = 2 → _ := hw (by omega)
            have hk7 : M.1 85 s.toNat = 2 → _ := hk7 (by omega)
            have h85 := hA1 (by omega)
            refine ⟨s.toNat, it_nn (x := s) (by omega), (show s.toNat < 8 by omega), ?_⟩
            refine tb_i (a := k) (by omega) ?_
            refine ⟨fun q8 => ?_, fun q8 => ?_⟩
            · refine aw_155_136 ?_
              refine ⟨1, 0, by first | decide | omega, by first | decide | omega, en_Ct_eq (V_cost (b := 84) (E := E) (M := M) hJ hg (x := (M.1 98 s.toNat)) (by omega) (by omega)) ?_⟩
              have cb9 := s_cost_b (hg.2.1 ((M.1 98 s.toNat).toNat) (by omega))
              first
                | exfalso
                  omega
                | have ha : a_saysM M E s k = (0, s_cost E ((M.1 98 s.toNat).toNat)) := by
                    unfold a_saysM vSay
                    rw [if_pos (by omega), if_neg (by omega), if_pos (by omega), if_pos ‹und _ _›]
                    refine congrArg (fun z : Int => ((0 : Nat), z)) ?_
                    repeat first | rw [if_pos (by omega)] | rw [if_neg (by omega)]
                    first | done | rfl | (rw [e7]; done) | (rw [e6]; done) | (unfold s_km; rw [← e7, ← r2, ← hdv]; split <;> omega)
                  rw [ha]
                  exact ⟨rfl, sM_rfl⟩
            · refine ⟨fun q10 => ?_, fun q10 => ?_⟩
              · refine aw_155_142 ?_
                refine ⟨1, 0, by first | decide | omega, by first | decide | omega, en_Ct_eq (M_sw (M := M) (E := E) hJ hg (x := (M.1 98 s.toNat)) (by omega) (by omega)) ?_⟩
                have sb11 := s_sw_le (E := E) (w := ((M.1 98 s.toNat).toNat)) (E.1 0 2).toNat (ok_pp hg) hg.2.2.1
                first
                  | exfalso
                    omega
                  | have ha : a_saysM M E s k = (0, ((s_sw E ((M.1 98 s.toNat).toNat) (E.1 0 2).toNat : Nat) : Int)) := by
                      unfold a_saysM vSay
                      rw [if_pos (by omega), if_neg (by omega), if_pos (by omega), if_pos ‹und _ _›]
                      refine congrArg (fun z : Int => ((0 : Nat), z)) ?_
                      repeat first | rw [if_pos (by omega)] | rw [if_neg (by omega)]
                      first | done | rfl | (rw [e7]; done) | (rw [e6]; done) | (unfold s_km; rw [← e7, ← r2, ← hdv]; split <;> omega)
                    rw [ha]
                    exact ⟨rfl, sM_rfl⟩
              · refine ⟨fun q12 => ?_, fun q12 => ?_⟩
                · refine aw_155_148 ?_
                  refine ⟨(M.1 98 s.toNat).toNat, it_nn (x := M.1 98 s.toNat) (by omega), (show (M.1 98 s.toNat).toNat < 24 by omega), ?_⟩
                  refine ⟨1, 0, by first | decide | omega, by first | decide | omega, en_Ct_eq (R_bits' (M.1 106 ((M.1 98 s.toNat).toNat)) (by omega) (by omega) _) ?_⟩
                  have pb13 := s_pc_b (n := ((M.1 106 ((M.1 98 s.toNat).toNat)).toNat))
                  first
                    | exfalso
                      omega
                    | have ha : a_saysM M E s k = (0, ((s_pc ((M.1 106 ((M.1 98 s.toNat).toNat)).toNat) : Nat) : Int)) := by
                        unfold a_saysM vSay
                        rw [if_pos (by omega), if_neg (by omega), if_pos (by omega), if_pos ‹und _ _›]
                        refine congrArg (fun z : Int => ((0 : Nat), z)) ?_
                        repeat first | rw [if_pos (by omega)] | rw [if_neg (by omega)]
                        first | done | rfl | (rw [e7]; done) | (rw [e6]; done) | (unfold s_km; rw [← e7, ← r2, ← hdv]; split <;> omega)
                      rw [ha]
                      exact ⟨rfl, sM_rfl⟩
                · refine ⟨fun q14 => ?_, fun q14 => ?_⟩
                  · refine aw_155_158 ?_
                    refine ⟨1, 0, by first | decide | omega, by first | decide | omega, en_Ct_eq (M_sw (M := M) (E := E) hJ hg (x := (M.1 98 s.toNat)) (by omega) (by omega)) ?_⟩
                    have sb15 := s_sw_le (E := E) (w := ((M.1 98 s.toNat).toNat)) (E.1 0 2).toNat (ok_pp hg) hg.2.2.1
                    refine br_ne (a := ((s_sw E ((M.1 98 s.toNat).toNat) (E.1 0 2).toNat : Nat) : Int)) (b := 1) (by omega) (by omega) (fun q16 => ?_) (fun q16 => ?_)
                    · refine aw_155_171 ?_
                      refine aw_155_172 ?_
                      first
                        | exfalso
                          omega
                        | have ha : a_saysM M E s k = (0, 0) := by
                            unfold a_saysM vSay
                            rw [if_pos (by omega), if_neg (by omega), if_pos (by omega), if_pos ‹und _ _›]
                            refine congrArg (fun z : Int => ((0 : Nat), z)) ?_
                            repeat first | rw [if_pos (by omega)] | rw [if_neg (by omega)]
                            first | done | rfl | (rw [e7]; done) | (rw [e6]; done) | (unfold s_km; rw [← e7, ← r2, ← hdv]; split <;> omega)
                          rw [ha]
                          exact ⟨rfl, sM_rfl⟩
                    · refine aw_155_172 ?_
                      first
                        | exfalso
                          omega
                        | have ha : a_saysM M E s k = (0, 1) := by
                            unfold a_saysM vSay
                            rw [if_pos (by omega), if_neg (by omega), if_pos (by omega), if_pos ‹und _ _›]
                            refine congrArg (fun z : Int => ((0 : Nat), z)) ?_
                            repeat first | rw [if_pos (by omega)] | rw [if_neg (by omega)]
                            first | done | rfl | (rw [e7]; done) | (rw [e6]; done) | (unfold s_km; rw [← e7, ← r2, ← hdv]; split <;> omega)
                          rw [ha]
                          exact ⟨rfl, sM_rfl⟩
                  · refine ⟨fun q17 => ?_, fun q17 => ?_⟩
                    · refine aw_155_173 ?_
                      refine ⟨by decide, ?_⟩
                      refine ⟨(M.1 98 s.toNat).toNat, it_nn (x := M.1 98 s.toNat) (by omega), (show (M.1 98 s.toNat).toNat < 24 by omega), ?_⟩
                      refine ⟨1, 0, by first | decide | omega, by first | decide | omega, en_Ct_eq (R_bits' (M.1 106 ((M.1 98 s.toNat).toNat)) (by omega) (by omega) _) ?_⟩
                      have pb18 := s_pc_b (n := ((M.1 106 ((M.1 98 s.toNat).toNat)).toNat))
                      refine br_le (a := (en_div ((M.1 84 18) + 1) 2) - ((s_pc ((M.1 106 ((M.1 98 s.toNat).toNat)).toNat) : Nat) : Int)) (b := 0) (by omega) (by omega) (fun q19 => ?_) (fun q19 => ?_)
                      · refine aw_155_203 ?_
                        refine aw_155_204 ?_
                        first
                          | exfalso
                            omega
                          | have ha : a_saysM M E s k = (0, 0) := by
                              unfold a_saysM vSay
                              rw [if_pos (by omega), if_neg (by omega), if_pos (by omega), if_pos ‹und _ _›]
                              refine congrArg (fun z : Int => ((0 : Nat), z)) ?_
                              repeat first | rw [if_pos (by omega)] | rw [if_neg (by omega)]
                              first | done | rfl | (rw [e7]; done) | (rw [e6]; done) | (unfold s_km; rw [← e7, ← r2, ← hdv]; split <;> omega)
                            rw [ha]
                            exact ⟨rfl, sM_rfl⟩
                      · refine aw_155_204 ?_
                        first
                          | exfalso
                            omega
                          | have ha : a_saysM M E s k = (0, (en_div ((M.1 84 18) + 1) 2) - ((s_pc ((M.1 106 ((M.1 98 s.toNat).toNat)).toNat) : Nat) : Int)) := by
                              unfold a_saysM vSay
                              rw [if_pos (by omega), if_neg (by omega), if_pos (by omega), if_pos ‹und _ _›]
                              refine congrArg (fun z : Int => ((0 : Nat), z)) ?_
                              repeat first | rw [if_pos (by omega)] | rw [if_neg (by omega)]
                              first | done | rfl | (rw [e7]; done) | (rw [e6]; done) | (unfold s_km; rw [← e7, ← r2, ← hdv]; split <;> omega)
                            rw [ha]
                            exact ⟨rfl, sM_rfl⟩
                    · refine aw_155_205 ?_
                      refine ⟨(M.1 98 s.toNat).toNat, it_nn (x := M.1 98 s.toNat) (by omega), (show (M.1 98 s.toNat).toNat < 24 by omega), ?_⟩
                      first
                        | exfalso
                          omega
                        | have ha : a_saysM M E s k = (0, M.1 105 ((M.1 98 s.toNat).toNat)) := by
                            unfold a_saysM vSay
                            rw [if_pos (by omega), if_neg (by omega), if_pos (by omega), if_pos ‹und _ _›]
                            refine congrArg (fun z : Int => ((0 : Nat), z)) ?_
                            repeat first | rw [if_pos (by omega)] | rw [if_neg (by omega)]
                            first | done | rfl | (rw [e7]; done) | (rw [e6]; done) | (unfold s_km; rw [← e7, ← r2, ← hdv]; split <;> omega)
                          rw [ha]
                          exact ⟨rfl, sM_rfl⟩
          · refine ⟨1, 0, by first | decide | omega, by first | decide | omega, en_Ct_eq (R_refM (-4) (by omega) M) ?_⟩
            first
              | exfalso
                omega
              | have ha : a_saysM M E s k = (3, (-4)) := by
                  unfold a_saysM
                  repeat first | rw [if_pos (by omega)] | rw [if_neg (by omega)] | rw [if_pos ‹und _ _›] | rw [if_neg ‹¬ und _ _›]
                rw [ha]
                exact ⟨rfl, sM_rfl⟩
        · refine ⟨s.toNat, it_nn (x := s) (by omega), (show s.toNat < 8 by omega), ?_⟩
          refine ⟨(M.1 98 s.toNat).toNat, it_nn (x := M.1 98 s.toNat) (by omega), (show (M.1 98 s.toNat).toNat < 24 by omega), ?_⟩
          have hu2 : en_Ct 1 0 153 [.inl (M.1 101 (M.1 98 s.toNat).toNat), .inl k] M (fun r M' => r = some (.inl (if und (E.1 2 (M.1 98 s.toNat).toNat) k then 1 else 0)) ∧ M' = M) := by
            rw [show M.1 101 (M.1 98 s.toNat).toNat = E.1 2 (M.1 98 s.toNat).toNat from congrFun e2 _]
            exact R_undM (E.1 2 (M.1 98 s.toNat).toNat) k (hkd (by omega) (by omega)) (by omega) M
          by_cases c20 : und (E.1 2 (M.1 98 s.toNat).toNat) k
          · refine ⟨1, 0, by first | decide | omega, by first | decide | omega, en_Ct_t hu2 c20 ?_⟩
            refine br_ne_y (by decide) (by decide) (by decide) ?_
            refine aw_155_76 ?_
            refine ⟨s.toNat, it_nn (x := s) (by omega), (show s.toNat < 8 by omega), ?_⟩
            refine br_ne (a := M.1 85 s.toNat) (b := 0) (by omega) (by omega) (fun q22 => ?_) (fun q22 => ?_)
            · refine aw_155_92 ?_
              have hww : M.1 85 s.toNat = 2 → _ := hw (by omega)
              have hk7 : M.1 85 s.toNat = 2 → _ := hk7 (by omega)
              have h85 := hA1 (by omega)
              refine ⟨s.toNat, it_nn (x := s) (by omega), (show s.toNat < 8 by omega), ?_⟩
              refine tb_i (a := k) (by omega) ?_
              refine ⟨fun q23 => ?_, fun q23 => ?_⟩
              · refine aw_155_136 ?_
                refine ⟨1, 0, by first | decide | omega, by first | decide | omega, en_Ct_eq (V_cost (b := 84) (E := E) (M := M) hJ hg (x := (M.1 98 s.toNat)) (by omega) (by omega)) ?_⟩
                have cb24 := s_cost_b (hg.2.1 ((M.1 98 s.toNat).toNat) (by omega))
                first
                  | exfalso
                    omega
                  | have ha : a_saysM M E s k = (0, s_cost E ((M.1 98 s.toNat).toNat)) := by
                      unfold a_saysM vSay
                      rw [if_pos (by omega), if_neg (by omega), if_pos (by omega), if_pos ‹und _ _›]
                      refine congrArg (fun z : Int => ((0 : Nat), z)) ?_
                      repeat first | rw [if_pos (by omega)] | rw [if_neg (by omega)]
                      first | done | rfl | (rw [e7]; done) | (rw [e6]; done) | (unfold s_km; rw [← e7, ← r2, ← hdv]; split <;> omega)
                    rw [ha]
                    exact ⟨rfl, sM_rfl⟩
              · refine ⟨fun q25 => ?_, fun q25 => ?_⟩
                · refine aw_155_142 ?_
                  refine ⟨1, 0, by first | decide | omega, by first | decide | omega, en_Ct_eq (M_sw (M := M) (E := E) hJ hg (x := (M.1 98 s.toNat)) (by omega) (by omega)) ?_⟩
                  have sb26 := s_sw_le (E := E) (w := ((M.1 98 s.toNat).toNat)) (E.1 0 2).toNat (ok_pp hg) hg.2.2.1
                  first
                    | exfalso
                      omega
                    | have ha : a_saysM M E s k = (0, ((s_sw E ((M.1 98 s.toNat).toNat) (E.1 0 2).toNat : Nat) : Int)) := by
                        unfold a_saysM vSay
                        rw [if_pos (by omega), if_neg (by omega), if_pos (by omega), if_pos ‹und _ _›]
                        refine congrArg (fun z : Int => ((0 : Nat), z)) ?_
                        repeat first | rw [if_pos (by omega)] | rw [if_neg (by omega)]
                        first | done | rfl | (rw [e7]; done) | (rw [e6]; done) | (unfold s_km; rw [← e7, ← r2, ← hdv]; split <;> omega)
                      rw [ha]
                      exact ⟨rfl, sM_rfl⟩
                · refine ⟨fun q27 => ?_, fun q27 => ?_⟩
                  · refine aw_155_148 ?_
                    refine ⟨(M.1 98 s.toNat).toNat, it_nn (x := M.1 98 s.toNat) (by omega), (show (M.1 98 s.toNat).toNat < 24 by omega), ?_⟩
                    refine ⟨1, 0, by first | decide | omega, by first | decide | omega, en_Ct_eq (R_bits' (M.1 106 ((M.1 98 s.toNat).toNat)) (by omega) (by omega) _) ?_⟩
                    have pb28 := s_pc_b (n := ((M.1 106 ((M.1 98 s.toNat).toNat)).toNat))
                    first
                      | exfalso
                        omega
                      | have ha : a_saysM M E s k = (0, ((s_pc ((M.1 106 ((M.1 98 s.toNat).toNat)).toNat) : Nat) : Int)) := by
                          unfold a_saysM vSay
                          rw [if_pos (by omega), if_neg (by omega), if_pos (by omega), if_pos ‹und _ _›]
                          refine congrArg (fun z : Int => ((0 : Nat), z)) ?_
                          repeat first | rw [if_pos (by omega)] | rw [if_neg (by omega)]
                          first | done | rfl | (rw [e7]; done) | (rw [e6]; done) | (unfold s_km; rw [← e7, ← r2, ← hdv]; split <;> omega)
                        rw [ha]
                        exact ⟨rfl, sM_rfl⟩
                  · refine ⟨fun q29 => ?_, fun q29 => ?_⟩
                    · refine aw_155_158 ?_
                      refine ⟨1, 0, by first | decide | omega, by first | decide | omega, en_Ct_eq (M_sw (M := M) (E := E) hJ hg (x := (M.1 98 s.toNat)) (by omega) (by omega)) ?_⟩
                      have sb30 := s_sw_le (E := E) (w := ((M.1 98 s.toNat).toNat)) (E.1 0 2).toNat (ok_pp hg) hg.2.2.1
                      refine br_ne (a := ((s_sw E ((M.1 98 s.toNat).toNat) (E.1 0 2).toNat : Nat) : Int)) (b := 1) (by omega) (by omega) (fun q31 => ?_) (fun q31 => ?_)
                      · refine aw_155_171 ?_
                        refine aw_155_172 ?_
                        first
                          | exfalso
                            omega
                          | have ha : a_saysM M E s k = (0, 0) := by
                              unfold a_saysM vSay
                              rw [if_pos (by omega), if_neg (by omega), if_pos (by omega), if_pos ‹und _ _›]
                              refine congrArg (fun z : Int => ((0 : Nat), z)) ?_
                              repeat first | rw [if_pos (by omega)] | rw [if_neg (by omega)]
                              first | done | rfl | (rw [e7]; done) | (rw [e6]; done) | (unfold s_km; rw [← e7, ← r2, ← hdv]; split <;> omega)
                            rw [ha]
                            exact ⟨rfl, sM_rfl⟩
                      · refine aw_155_172 ?_
                        first
                          | exfalso
                            omega
                          | have ha : a_saysM M E s k = (0, 1) := by
                              unfold a_saysM vSay
                              rw [if_pos (by omega), if_neg (by omega), if_pos (by omega), if_pos ‹und _ _›]
                              refine congrArg (fun z : Int => ((0 : Nat), z)) ?_
                              repeat first | rw [if_pos (by omega)] | rw [if_neg (by omega)]
                              first | done | rfl | (rw [e7]; done) | (rw [e6]; done) | (unfold s_km; rw [← e7, ← r2, ← hdv]; split <;> omega)
                            rw [ha]
                            exact ⟨rfl, sM_rfl⟩
                    · refine ⟨fun q32 => ?_, fun q32 => ?_⟩
                      · refine aw_155_173 ?_
                        refine ⟨by decide, ?_⟩
                        refine ⟨(M.1 98 s.toNat).toNat, it_nn (x := M.1 98 s.toNat) (by omega), (show (M.1 98 s.toNat).toNat < 24 by omega), ?_⟩
                        refine ⟨1, 0, by first | decide | omega, by first | decide | omega, en_Ct_eq (R_bits' (M.1 106 ((M.1 98 s.toNat).toNat)) (by omega) (by omega) _) ?_⟩
                        have pb33 := s_pc_b (n := ((M.1 106 ((M.1 98 s.toNat).toNat)).toNat))
                        refine br_le (a := (en_div ((M.1 84 18) + 1) 2) - ((s_pc ((M.1 106 ((M.1 98 s.toNat).toNat)).toNat) : Nat) : Int)) (b := 0) (by omega) (by omega) (fun q34 => ?_) (fun q34 => ?_)
                        · refine aw_155_203 ?_
                          refine aw_155_204 ?_
                          first
                            | exfalso
                              omega
                            | have ha : a_saysM M E s k = (0, 0) := by
                                unfold a_saysM vSay
                                rw [if_pos (by omega), if_neg (by omega), if_pos (by omega), if_pos ‹und _ _›]
                                refine congrArg (fun z : Int => ((0 : Nat), z)) ?_
                                repeat first | rw [if_pos (by omega)] | rw [if_neg (by omega)]
                                first | done | rfl | (rw [e7]; done) | (rw [e6]; done) | (unfold s_km; rw [← e7, ← r2, ← hdv]; split <;> omega)
                              rw [ha]
                              exact ⟨rfl, sM_rfl⟩
                        · refine aw_155_204 ?_
                          first
                            | exfalso
                              omega
                            | have ha : a_saysM M E s k = (0, (en_div ((M.1 84 18) + 1) 2) - ((s_pc ((M.1 106 ((M.1 98 s.toNat).toNat)).toNat) : Nat) : Int)) := by
                                unfold a_saysM vSay
                                rw [if_pos (by omega), if_neg (by omega), if_pos (by omega), if_pos ‹und _ _›]
                                refine congrArg (fun z : Int => ((0 : Nat), z)) ?_
                                repeat first | rw [if_pos (by omega)] | rw [if_neg (by omega)]
                                first | done | rfl | (rw [e7]; done) | (rw [e6]; done) | (unfold s_km; rw [← e7, ← r2, ← hdv]; split <;> omega)
                              rw [ha]
                              exact ⟨rfl, sM_rfl⟩
                      · refine aw_155_205 ?_
                        refine ⟨(M.1 98 s.toNat).toNat, it_nn (x := M.1 98 s.toNat) (by omega), (show (M.1 98 s.toNat).toNat < 24 by omega), ?_⟩
                        first
                          | exfalso
                            omega
                          | have ha : a_saysM M E s k = (0, M.1 105 ((M.1 98 s.toNat).toNat)) := by
                              unfold a_saysM vSay
                              rw [if_pos (by omega), if_neg (by omega), if_pos (by omega), if_pos ‹und _ _›]
                              refine congrArg (fun z : Int => ((0 : Nat), z)) ?_
                              repeat first | rw [if_pos (by omega)] | rw [if_neg (by omega)]
                              first | done | rfl | (rw [e7]; done) | (rw [e6]; done) | (unfold s_km; rw [← e7, ← r2, ← hdv]; split <;> omega)
                            rw [ha]
                            exact ⟨rfl, sM_rfl⟩
            · refine ⟨1, 0, by first | decide | omega, by first | decide | omega, en_Ct_eq (R_refM (-4) (by omega) M) ?_⟩
              first
                | exfalso
                  omega
                | have ha : a_saysM M E s k = (3, (-4)) := by
                    unfold a_saysM
                    repeat first | rw [if_pos (by omega)] | rw [if_neg (by omega)] | rw [if_pos ‹und _ _›] | rw [if_neg ‹¬ und _ _›]
                  rw [ha]
                  exact ⟨rfl, sM_rfl⟩
          · refine ⟨1, 0, by first | decide | omega, by first | decide | omega, en_Ct_f hu2 c20 ?_⟩
            refine br_ne_n (by decide) (by decide) (by decide) ?_
            refine aw_155_69 ?_
            refine ⟨1, 0, by first | decide | omega, by first | decide | omega, en_Ct_eq (R_refM (-3) (by omega) M) ?_⟩
            first
              | exfalso
                omega
              | have ha : a_saysM M E s k = (2, (-3)) := by
                  unfold a_saysM
                  repeat first | rw [if_pos (by omega)] | rw [if_neg (by omega)] | rw [if_pos ‹und _ _›] | rw [if_neg ‹¬ und _ _›]
                rw [ha]
                exact ⟨rfl, sM_rfl⟩
    · refine ⟨1, 0, by first | decide | omega, by first | decide | omega, en_Ct_f (R_in (en_wr k) 0 5 k 0 5 (wl_wr ⟨by omega, by omega⟩) (wl_of ⟨by omega, by omega⟩) (wl_of ⟨by omega, by omega⟩) _) c3 ?_⟩
      refine br_ne_n (by decide) (by decide) (by decide) ?_
      refine aw_155_24 ?_
      refine ⟨1, 0, by first | decide | omega, by first | decide | omega, en_Ct_eq (R_refM (-2) (by omega) M) ?_⟩
      first
        | exfalso
          omega
        | have ha : a_saysM M E s k = (1, (-2)) := by
            unfold a_saysM
            repeat first | rw [if_pos (by omega)] | rw [if_neg (by omega)] | rw [if_pos ‹und _ _›] | rw [if_neg ‹¬ und _ _›]
          rw [ha]
          exact ⟨rfl, sM_rfl⟩
  · refine ⟨1, 0, by first | decide | omega, by first | decide | omega, en_Ct_f (R_in (en_wr s) 0 7 s 0 7 (wl_wr ⟨by omega, by omega⟩) (wl_of ⟨by omega, by omega⟩) (wl_of ⟨by omega, by omega⟩) _) c1 ?_⟩
    refine br_eq_y (by decide) (by decide) (by decide) ?_
    refine aw_155_24 ?_
    refine ⟨1, 0, by first | decide | omega, by first | decide | omega, en_Ct_eq (R_refM (-2) (by omega) M) ?_⟩
    first
      | exfalso
        omega
      | have ha : a_saysM M E s k = (1, (-2)) := by
          unfold a_saysM
          repeat first | rw [if_pos (by omega)] | rw [if_neg (by omega)] | rw [if_pos ‹und _ _›] | rw [if_neg ‹¬ und _ _›]
        rw [ha]
        exact ⟨rfl, sM_rfl⟩
theorem vSay_c {E F : Ev} (h : evs E F) (hg : s_ok E) {w : Nat} {k : Int} (hw : w < 24) : vSay E w k = vSay F w k := by
  unfold vSay s_km
  rw [← ev_pp h, ev_sw h hg _ (ok_pp hg), ev_r h 7 (by decide) (by decide) hw, ev_r h 6 (by decide) (by decide) hw, ev_cost h hw, h.1 2 (by decide)]
theorem S_says {s k : Int} (hs : -2147483648 ≤ s ∧ s < 2147483648) (hk : -2147483648 ≤ k ∧ k < 2147483648) : sameC 74 155 [.inl s, .inl k] := by
  intro M hc
  have hS := hc.2.2.2.2
  refine same_ra (hx := 9) (hm := 9) (f := a_says M (vE M 1) s k) hc (by decide) (by decide) (by unfold a_says; (repeat' split) <;> exact Nat.le_of_ble_eq_true rfl) (PX_says (vE M 1) M isE_self hc.1.1 hS s k hs hk) (fun M1 h84 h64 => ?_)
  have hw8 : ∀ k : Nat, k < 8 → M1.1 85 k = 2 → 0 ≤ M1.1 98 k ∧ M1.1 98 k < (vM M 84).1 0 1 := fun k hk h2 => by
    rw [h84 85 (by decide)] at h2
    rw [h84 98 (by decide), ← hc.1.2.1 1 (by decide)]
    rcases hS k hk with z | z | z
    · omega
    · have := z.1
      omega
    · rw [z.2.2.1]; exact z.2.2.2
  have := PM_says (vM M 84) M1 (isM_x isM_self h84) (ev_ok hc.1.2 hc.1.1) (fun k hk => by rw [h84 85 (by decide)]; exact sh_Mo hS hk) hw8 s k hs hk
  have he : a_saysM M1 (vM M 84) s k = a_says M (vE M 1) s k := by
    unfold a_saysM a_says
    rw [h84 85 (by decide), h84 98 (by decide)]
    by_cases hcd : (0 ≤ s ∧ s ≤ 7) ∧ (0 ≤ k ∧ k ≤ 5)
    · rw [if_pos hcd, if_pos hcd]
      rcases hS s.toNat (by omega) with z | z | z
      · rw [if_neg (by omega), if_neg (by omega), if_neg (by omega), if_neg (by omega)]
      · rw [if_pos z.1, if_pos z.2.1]
      · obtain ⟨z1, z2, z3, z4, z5⟩ := z
        have w24 := hc.1.1.1.2.1
        have z5' : M.1 (68 + 2 * s.toNat) 2 < (vE M 1).1 0 1 := z5
        have h24 : (M.1 (68 + 2 * s.toNat) 2).toNat < 24 := by omega
        rw [if_neg (by omega), if_pos z1, if_neg (show ¬ (0 ≤ M.1 (68 + 2 * s.toNat) 0 ∧ M.1 (68 + 2 * s.toNat) 0 ≤ 4) by omega), if_pos z2, z3, ← ev_r hc.1.2 2 (by decide) (by decide) h24, ← vSay_c hc.1.2 hc.1.1 h24]
    · rw [if_neg hcd, if_neg hcd]
  rw [he] at this
  exact this
