theorem R_isKnown (e p w : Nat) (M : Mm) (hp : p < 4) (hw24 : w < 24) (hw : s_word (vE M e) w) : en_Ct 1 0 19 [.inr (.inr (1, 1, e)), .inl ((p : Nat) : Int), .inl ((w : Nat) : Int)] M (fun r M' => r = some (.inl (if s_kn (vE M e) p w = true then 1 else 0)) ∧ M' = M) := by
  obtain ⟨-, -, -, -, -, k6, -⟩ := wo_E hw
  have h1 := nu_kn (p := p) k6.1 k6.2 (by omega)
  have h2 := nu_and1 (en_shr (M.1 (e + 7) w) (p : Int))
  refine ct_19 rfl ?_
  refine aw_19_0 ?_
  refine ⟨w, rfl, by omega, ?_⟩
  refine br_ne (by omega) (by omega) (fun q1 => ?_) (fun q1 => ?_)
  · refine aw_19_18 ?_
    refine aw_19_19 ?_
    exact ⟨Or.inl rfl, by simp only [s_kn, vE]; grind, rfl⟩
  · refine aw_19_19 ?_
    exact ⟨Or.inr rfl, by simp only [s_kn, vE]; grind, rfl⟩

theorem R_isBarred (e w : Nat) (M : Mm) (hw24 : w < 24) (hw : s_word (vE M e) w) (hn : s_num (vE M e)) : en_Ct 1 0 20 [.inr (.inr (1, 1, e)), .inl ((w : Nat) : Int)] M (fun r M' => r = some (.inl (if s_bar (vE M e) w = true then 1 else 0)) ∧ M' = M) := by
  obtain ⟨-, -, -, -, -, -, k7⟩ := wo_E hw
  obtain ⟨-, -, -, -, -, -, -, -, -, -, a7⟩ := nm_E hn
  refine ct_20 rfl ?_
  refine aw_20_0 ?_
  refine ⟨7, rfl, by omega, ?_⟩
  refine br_ne (by omega) (by omega) (fun q1 => ?_) (fun q1 => ?_)
  · refine aw_20_24 ?_
    refine aw_20_25 ?_
    exact ⟨Or.inl rfl, by simp only [s_bar, vE]; grind, rfl⟩
  · refine ⟨w, rfl, by omega, ?_⟩
    refine br_eq (by omega) (by omega) (fun q2 => ?_) (fun q2 => ?_)
    · refine aw_20_24 ?_
      refine aw_20_25 ?_
      exact ⟨Or.inl rfl, by simp only [s_bar, vE]; grind, rfl⟩
    · refine aw_20_25 ?_
      exact ⟨Or.inr rfl, by simp only [s_bar, vE]; grind, rfl⟩

theorem R_canStand (e p w : Nat) (M : Mm) (hp : p < 4) (hw24 : w < 24) (hw : s_word (vE M e) w) (hn : s_num (vE M e)) : en_Ct 2 0 21 [.inr (.inr (1, 1, e)), .inl ((p : Nat) : Int), .inl ((w : Nat) : Int)] M (fun r M' => r = some (.inl (if s_can (vE M e) p w = true then 1 else 0)) ∧ M' = M) := by
  obtain ⟨k1, k2, k3, k4, k5, k6, k7⟩   := wo_E hw
  obtain ⟨n0, n1, n2, a0, a1, a2, a3, a4, a5, a6, a7⟩  := nm_E hn
  refine ct_21 rfl ?_
  refine aw_21_0 ?_
  refine ⟨w, rfl, by omega, ?_⟩
  refine ⟨0, rfl, by omega, ?_⟩
  refine br_ne (by omega) (by omega) (fun q1 => ?_) (fun q1 => ?_)
  · refine aw_21_49 ?_
    refine aw_21_50 ?_
    exact ⟨Or.inl rfl, by simp only [s_can, vE, Nat.add_zero]; grind, rfl⟩
  · refine ⟨w, rfl, by omega, ?_⟩
    refine br_ge (by omega) (by omega) (fun q2 => ?_) (fun q2 => ?_)
    · refine aw_21_49 ?_
      refine aw_21_50 ?_
      exact ⟨Or.inl rfl, by simp only [s_can, vE, Nat.add_zero]; grind, rfl⟩
    · by_cases c3 : s_kn (vE M e) p w = true
      · refine ⟨1, 0, by first | decide | omega, by first | decide | omega, en_Ct_t (R_isKnown _ p w _ (by omega) (by omega) hw) c3 ?_⟩
        refine br_eq_n (by decide) (by decide) (by decide) ?_
        by_cases c5 : s_bar (vE M e) w = true
        · refine ⟨1, 0, by first | decide | omega, by first | decide | omega, en_Ct_t (R_isBarred _ w _ (by omega) hw hn) c5 ?_⟩
          refine br_ne_y (by decide) (by decide) (by decide) ?_
          refine aw_21_49 ?_
          refine aw_21_50 ?_
          exact ⟨Or.inl rfl, by simp only [s_can, vE, Nat.add_zero]; grind, rfl⟩
        · refine ⟨1, 0, by first | decide | omega, by first | decide | omega, en_Ct_f (R_isBarred _ w _ (by omega) hw hn) c5 ?_⟩
          refine br_ne_n (by decide) (by decide) (by decide) ?_
          refine aw_21_50 ?_
          exact ⟨Or.inr rfl, by simp only [s_can, vE, Nat.add_zero]; grind, rfl⟩
      · refine ⟨1, 0, by first | decide | omega, by first | decide | omega, en_Ct_f (R_isKnown _ p w _ (by omega) (by omega) hw) c3 ?_⟩
        refine br_eq_y (by decide) (by decide) (by decide) ?_
        refine aw_21_49 ?_
        refine aw_21_50 ?_
        exact ⟨Or.inl rfl, by simp only [s_can, vE, Nat.add_zero]; grind, rfl⟩

