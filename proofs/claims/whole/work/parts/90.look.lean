theorem R_within (v a b : Int) (hv : en_rng v) (ha : en_rng a) (hb : en_rng b) (M : Mm) : en_Ct 1 0 119 [.inl v, .inl a, .inl b] M (fun r M' => r = some (.inl (if a ≤ v ∧ v ≤ b then 1 else 0)) ∧ M' = M) := by
  refine ct_119 rfl (aw_119_0 ?_)
  refine ⟨fun q => aw_119_14 (aw_119_15 ⟨Or.inl rfl, ?_, rfl⟩), fun q => ⟨fun q2 => aw_119_14 (aw_119_15 ⟨Or.inl rfl, ?_, rfl⟩), fun q2 => aw_119_15 ⟨Or.inr rfl, ?_, rfl⟩⟩⟩
  · change en_wr v < en_wr a at q
    rw [en_wr_of hv, en_wr_of ha] at q
    rw [if_neg (by omega)]
  · sorry
  · sorry
theorem R_isKnown (e p w : Nat) (M : Mm) (hp : p < 4) (hw : w < 24) : en_Ct 1 0 19 [.inr (.inr (1, 1, e)), .inl p, .inl w] M (fun r M' => r = some (.inl (if en_and (en_shr (M.1 (e + 7) w) p) 1 = 1 then 1 else 0)) ∧ M' = M) := by
  refine ct_19 rfl (aw_19_0 ?_)
  refine ⟨w, rfl, hw, ?_⟩
  refine ⟨fun q => aw_19_18 (aw_19_19 ⟨Or.inl rfl, ?_, rfl⟩), fun q => aw_19_19 ⟨Or.inr rfl, ?_, rfl⟩⟩
  all_goals sorry
