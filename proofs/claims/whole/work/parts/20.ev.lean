theorem R_within (v a b : Int) (hv : -2147483648 ≤ v ∧ v < 2147483648) (ha : -2147483648 ≤ a ∧ a < 2147483648) (hb : -2147483648 ≤ b ∧ b < 2147483648) (M : Mm) : en_Ct 1 0 119 [.inl v, .inl a, .inl b] M (fun r M' => r = some (.inl (if a ≤ v ∧ v ≤ b then 1 else 0)) ∧ M' = M) := by
  refine ct_119 rfl ?_
  refine aw_119_0 ?_
  refine br_lt (a := v) (b := a) (by omega) (by omega) (fun q1 => ?_) (fun q1 => ?_)
  · refine aw_119_14 ?_
    refine aw_119_15 ?_
    exact ⟨Or.inl rfl, by rw [if_neg (by omega)], rfl⟩
  · refine br_gt (a := v) (b := b) (by omega) (by omega) (fun q2 => ?_) (fun q2 => ?_)
    · refine aw_119_14 ?_
      refine aw_119_15 ?_
      exact ⟨Or.inl rfl, by rw [if_neg (by omega)], rfl⟩
    · refine aw_119_15 ?_
      exact ⟨Or.inr rfl, by rw [if_pos (by omega)], rfl⟩
theorem R_bitCount (n : Nat) (hn : n < 32) (M : Mm) : en_Ct 1 0 243 [.inl ((n : Nat) : Int)] M (fun r M' => r = some (.inl ((s_pc n : Nat) : Int)) ∧ M' = M) := by
  refine ct_243 rfl ?_
  refine aw_243_0 ?_
  have key : ∀ n : Nat, n < 32 → en_and (((en_and (((en_and (((n : Nat) : Int) - (en_and (en_ushr ((n : Nat) : Int) 1) 1431655765)) 858993459) + (en_and (en_ushr (((n : Nat) : Int) - (en_and (en_ushr ((n : Nat) : Int) 1) 1431655765)) 2) 858993459)) + (en_ushr ((en_and (((n : Nat) : Int) - (en_and (en_ushr ((n : Nat) : Int) 1) 1431655765)) 858993459) + (en_and (en_ushr (((n : Nat) : Int) - (en_and (en_ushr ((n : Nat) : Int) 1) 1431655765)) 2) 858993459)) 4)) 252645135) + (en_ushr (en_and (((en_and (((n : Nat) : Int) - (en_and (en_ushr ((n : Nat) : Int) 1) 1431655765)) 858993459) + (en_and (en_ushr (((n : Nat) : Int) - (en_and (en_ushr ((n : Nat) : Int) 1) 1431655765)) 2) 858993459)) + (en_ushr ((en_and (((n : Nat) : Int) - (en_and (en_ushr ((n : Nat) : Int) 1) 1431655765)) 858993459) + (en_and (en_ushr (((n : Nat) : Int) - (en_and (en_ushr ((n : Nat) : Int) 1) 1431655765)) 2) 858993459)) 4)) 252645135) 8)) + (en_ushr ((en_and (((en_and (((n : Nat) : Int) - (en_and (en_ushr ((n : Nat) : Int) 1) 1431655765)) 858993459) + (en_and (en_ushr (((n : Nat) : Int) - (en_and (en_ushr ((n : Nat) : Int) 1) 1431655765)) 2) 858993459)) + (en_ushr ((en_and (((n : Nat) : Int) - (en_and (en_ushr ((n : Nat) : Int) 1) 1431655765)) 858993459) + (en_and (en_ushr (((n : Nat) : Int) - (en_and (en_ushr ((n : Nat) : Int) 1) 1431655765)) 2) 858993459)) 4)) 252645135) + (en_ushr (en_and (((en_and (((n : Nat) : Int) - (en_and (en_ushr ((n : Nat) : Int) 1) 1431655765)) 858993459) + (en_and (en_ushr (((n : Nat) : Int) - (en_and (en_ushr ((n : Nat) : Int) 1) 1431655765)) 2) 858993459)) + (en_ushr ((en_and (((n : Nat) : Int) - (en_and (en_ushr ((n : Nat) : Int) 1) 1431655765)) 858993459) + (en_and (en_ushr (((n : Nat) : Int) - (en_and (en_ushr ((n : Nat) : Int) 1) 1431655765)) 2) 858993459)) 4)) 252645135) 8)) 16)) 63 = ((s_pc n : Nat) : Int) := by decide +kernel
  exact ⟨congrArg (fun z => some (Sum.inl z)) (key n hn), rfl⟩
theorem R_bitCount' (x : Int) (h0 : 0 ≤ x) (hn : x < 32) (M : Mm) : en_Ct 1 0 243 [.inl x] M (fun r M' => r = some (.inl ((s_pc x.toNat : Nat) : Int)) ∧ M' = M) := by
  have h := R_bitCount x.toNat (by omega) M
  rw [show ((x.toNat : Nat) : Int) = x by omega] at h
  exact h
theorem s_pc_b {n : Nat} : s_pc n ≤ 24 := Nat.le_trans (List.length_filter_le _ _) (by simp)
theorem R_isKnown (e p w : Nat) (M : Mm) (hp : p < 4) (hw24 : w < 24) (hw : s_word (vE M e) w) : en_Ct 1 0 19 [.inr (.inr (1, 1, e)), .inl ((p : Nat) : Int), .inl ((w : Nat) : Int)] M (fun r M' => r = some (.inl (if s_kn (vE M e) p w = true then 1 else 0)) ∧ M' = M) := by
  obtain ⟨k1, k2, k3, k4, k5, k6, k7⟩ := wo_E hw
  have h1 := nu_kn (p := p) k6.1 k6.2 (by omega)
  have h2 := nu_and1 (en_shr (M.1 (e + 7) w) (p : Int))
  refine ct_19 rfl ?_
  refine aw_19_0 ?_
  refine ⟨w, rfl, (show w < 24 by omega), ?_⟩
  refine br_ne (a := en_and (en_shr (M.1 (e + 7) w) ((p : Nat) : Int)) 1) (b := 1) (by omega) (by omega) (fun q1 => ?_) (fun q1 => ?_)
  · refine aw_19_18 ?_
    refine aw_19_19 ?_
    exact ⟨Or.inl rfl, by rw [s_kn_E]; grind, rfl⟩
  · refine aw_19_19 ?_
    exact ⟨Or.inr rfl, by rw [s_kn_E]; grind, rfl⟩
theorem R_isBarred (e w : Nat) (M : Mm) (hw24 : w < 24) (hw : s_word (vE M e) w) (hn : s_num (vE M e)) : en_Ct 1 0 20 [.inr (.inr (1, 1, e)), .inl ((w : Nat) : Int)] M (fun r M' => r = some (.inl (if s_bar (vE M e) w = true then 1 else 0)) ∧ M' = M) := by
  obtain ⟨k1, k2, k3, k4, k5, k6, k7⟩ := wo_E hw
  obtain ⟨n0, n1, n2, a0, a1, a2, a3, a4, a5, a6, a7⟩ := nm_E hn
  refine ct_20 rfl ?_
  refine aw_20_0 ?_
  refine ⟨7, rfl, (show 7 < 8 by omega), ?_⟩
  refine br_ne (a := M.1 (e + 1) 7) (b := 1) (by omega) (by omega) (fun q1 => ?_) (fun q1 => ?_)
  · refine aw_20_24 ?_
    refine aw_20_25 ?_
    exact ⟨Or.inl rfl, by rw [s_bar_E]; grind, rfl⟩
  · refine ⟨w, rfl, (show w < 24 by omega), ?_⟩
    refine br_eq (a := M.1 (e + 8) w) (b := 0) (by omega) (by omega) (fun q2 => ?_) (fun q2 => ?_)
    · refine aw_20_24 ?_
      refine aw_20_25 ?_
      exact ⟨Or.inl rfl, by rw [s_bar_E]; grind, rfl⟩
    · refine aw_20_25 ?_
      exact ⟨Or.inr rfl, by rw [s_bar_E]; grind, rfl⟩
theorem R_canStand (e p w : Nat) (M : Mm) (hp : p < 4) (hw24 : w < 24) (hw : s_word (vE M e) w) (hn : s_num (vE M e)) : en_Ct 2 0 21 [.inr (.inr (1, 1, e)), .inl ((p : Nat) : Int), .inl ((w : Nat) : Int)] M (fun r M' => r = some (.inl (if s_can (vE M e) p w = true then 1 else 0)) ∧ M' = M) := by
  obtain ⟨k1, k2, k3, k4, k5, k6, k7⟩ := wo_E hw
  obtain ⟨n0, n1, n2, a0, a1, a2, a3, a4, a5, a6, a7⟩ := nm_E hn
  refine ct_21 rfl ?_
  refine aw_21_0 ?_
  refine ⟨w, rfl, (show w < 24 by omega), ?_⟩
  refine ⟨0, rfl, (show 0 < 8 by omega), ?_⟩
  refine br_ne (a := M.1 (e + 3) w) (b := M.1 (e + 1) 0) (by omega) (by omega) (fun q1 => ?_) (fun q1 => ?_)
  · refine aw_21_49 ?_
    refine aw_21_50 ?_
    exact ⟨Or.inl rfl, by rw [s_can_E]; grind, rfl⟩
  · refine ⟨w, rfl, (show w < 24 by omega), ?_⟩
    refine br_ge (a := M.1 (e + 4) w) (b := M.1 e 0) (by omega) (by omega) (fun q2 => ?_) (fun q2 => ?_)
    · refine aw_21_49 ?_
      refine aw_21_50 ?_
      exact ⟨Or.inl rfl, by rw [s_can_E]; grind, rfl⟩
    · by_cases c3 : s_kn (vE M e) p w = true
      · refine ⟨1, 0, by first | decide | omega, by first | decide | omega, en_Ct_t (R_isKnown e p w _ (by omega) (by omega) hw) c3 ?_⟩
        refine br_eq_n (by decide) (by decide) (by decide) ?_
        by_cases c5 : s_bar (vE M e) w = true
        · refine ⟨1, 0, by first | decide | omega, by first | decide | omega, en_Ct_t (R_isBarred e w _ (by omega) hw hn) c5 ?_⟩
          refine br_ne_y (by decide) (by decide) (by decide) ?_
          refine aw_21_49 ?_
          refine aw_21_50 ?_
          exact ⟨Or.inl rfl, by rw [s_can_E]; grind, rfl⟩
        · refine ⟨1, 0, by first | decide | omega, by first | decide | omega, en_Ct_f (R_isBarred e w _ (by omega) hw hn) c5 ?_⟩
          refine br_ne_n (by decide) (by decide) (by decide) ?_
          refine aw_21_50 ?_
          exact ⟨Or.inr rfl, by rw [s_can_E]; grind, rfl⟩
      · refine ⟨1, 0, by first | decide | omega, by first | decide | omega, en_Ct_f (R_isKnown e p w _ (by omega) (by omega) hw) c3 ?_⟩
        refine br_eq_y (by decide) (by decide) (by decide) ?_
        refine aw_21_49 ?_
        refine aw_21_50 ?_
        exact ⟨Or.inl rfl, by rw [s_can_E]; grind, rfl⟩
theorem R_cost (e w : Nat) (M : Mm) (hw24 : w < 24) (hw : s_word (vE M e) w) : en_Ct 1 0 18 [.inr (.inr (1, 1, e)), .inl ((w : Nat) : Int)] M (fun r M' => r = some (.inl (s_cost (vE M e) w)) ∧ M' = M) := by
  obtain ⟨k1, k2, k3, k4, k5, k6, k7⟩ := wo_E hw
  refine ct_18 rfl ?_
  refine aw_18_0 ?_
  refine ⟨w, rfl, (show w < 24 by omega), ?_⟩
  refine ⟨w, rfl, (show w < 24 by omega), ?_⟩
  refine tb_i (a := M.1 (e + 2) w) (by omega) ?_
  refine ⟨fun q1 => ?_, fun q1 => ?_⟩
  · refine aw_18_48 ?_
    refine ⟨by decide, ?_⟩
    exact ⟨congrArg (fun z => some (Sum.inl z)) (by rw [s_cost_E]; unfold s_half; rw [nu_half (by omega) (by omega), en_wr_of (x := 1) ⟨by decide, by decide⟩, en_wr_of (x := M.1 (e + 5) w / 2) ⟨by omega, by omega⟩]; split <;> split <;> (try split) <;> omega), rfl⟩
  · refine ⟨fun q2 => ?_, fun q2 => ?_⟩
    · refine aw_18_56 ?_
      refine ⟨w, rfl, (show w < 24 by omega), ?_⟩
      exact ⟨congrArg (fun z => some (Sum.inl z)) (by rw [s_cost_E]; unfold s_half; split <;> (try split) <;> (try split) <;> (try split) <;> omega), rfl⟩
    · refine ⟨fun q3 => ?_, fun q3 => ?_⟩
      · refine aw_18_48 ?_
        refine ⟨by decide, ?_⟩
        exact ⟨congrArg (fun z => some (Sum.inl z)) (by rw [s_cost_E]; unfold s_half; rw [nu_half (by omega) (by omega), en_wr_of (x := 1) ⟨by decide, by decide⟩, en_wr_of (x := M.1 (e + 5) w / 2) ⟨by omega, by omega⟩]; split <;> split <;> (try split) <;> omega), rfl⟩
      · refine ⟨fun q4 => ?_, fun q4 => ?_⟩
        · refine aw_18_76 ?_
          exact ⟨congrArg (fun z => some (Sum.inl z)) (by rw [s_cost_E]; unfold s_half; split <;> (try split) <;> (try split) <;> (try split) <;> omega), rfl⟩
        · refine ⟨fun q5 => ?_, fun q5 => ?_⟩
          · refine aw_18_65 ?_
            refine ⟨w, rfl, (show w < 24 by omega), ?_⟩
            exact ⟨congrArg (fun z => some (Sum.inl z)) (by rw [s_cost_E]; unfold s_half; split <;> (try split) <;> (try split) <;> (try split) <;> omega), rfl⟩
          · refine aw_18_76 ?_
            exact ⟨congrArg (fun z => some (Sum.inl z)) (by rw [s_cost_E]; unfold s_half; split <;> (try split) <;> (try split) <;> (try split) <;> omega), rfl⟩
theorem R_passesVote (e w : Nat) (M : Mm) (hw24 : w < 24) (hw : s_word (vE M e) w) (hn : s_num (vE M e)) : en_Ct 2 0 27 [.inr (.inr (1, 1, e)), .inl ((w : Nat) : Int)] M (fun r M' => r = some (.inl (if s_vote (vE M e) w = true then 1 else 0)) ∧ M' = M) := by
  obtain ⟨k1, k2, k3, k4, k5, k6, k7⟩ := wo_E hw
  obtain ⟨n0, n1, n2, a0, a1, a2, a3, a4, a5, a6, a7⟩ := nm_E hn
  refine ct_27 rfl ?_
  refine aw_27_0 ?_
  refine ⟨6, rfl, (show 6 < 8 by omega), ?_⟩
  refine br_eq (a := M.1 (e + 1) 6) (b := 0) (by omega) (by omega) (fun q1 => ?_) (fun q1 => ?_)
  · refine aw_27_38 ?_
    refine aw_27_43 ?_
    exact ⟨Or.inr rfl, by rw [s_vote_E]; grind, rfl⟩
  · refine ⟨w, rfl, (show w < 24 by omega), ?_⟩
    refine br_ne (a := M.1 (e + 2) w) (b := 4) (by omega) (by omega) (fun q2 => ?_) (fun q2 => ?_)
    · refine aw_27_38 ?_
      refine aw_27_43 ?_
      exact ⟨Or.inr rfl, by rw [s_vote_E]; grind, rfl⟩
    · refine ⟨w, rfl, (show w < 24 by omega), ?_⟩
      refine ⟨1, 0, by first | decide | omega, by first | decide | omega, en_Ct_eq (R_bitCount' (M.1 (e + 7) w) (by omega) (by omega) _) ?_⟩
      have pb3 := s_pc_b (n := (M.1 (e + 7) w).toNat)
      refine br_lt (a := 2 * ((s_pc (M.1 (e + 7) w).toNat : Nat) : Int)) (b := M.1 e 2) (by omega) (by omega) (fun q4 => ?_) (fun q4 => ?_)
      · refine aw_27_42 ?_
        refine aw_27_43 ?_
        exact ⟨Or.inl rfl, by rw [s_vote_E]; grind, rfl⟩
      · refine aw_27_38 ?_
        refine aw_27_43 ?_
        exact ⟨Or.inr rfl, by rw [s_vote_E]; grind, rfl⟩
