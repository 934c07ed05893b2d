def lowb (t v : Int) : Int := if t = 0 then en_wr (en_i2b v) else if t = 1 then en_wr (en_i2s v) else if t = 2 then en_wr v else if t = 3 then v else if v = 0 then 0 else 1
theorem wr_rng (x : Int) : -2147483648 ≤ en_wr x ∧ en_wr x < 2147483648 := by
  unfold en_wr
  have h1 := Int32.le_toInt (Int32.ofInt x)
  have h2 := Int32.toInt_lt (Int32.ofInt x)
  omega
theorem lowb_rng {t v : Int} (hv : -9223372036854775808 ≤ v ∧ v < 9223372036854775808) : -9223372036854775808 ≤ lowb t v ∧ lowb t v < 9223372036854775808 := by
  unfold lowb
  have h1 := wr_rng (en_i2b v)
  have h2 := wr_rng (en_i2s v)
  have h3 := wr_rng v
  split
  · omega
  · split
    · omega
    · split
      · omega
      · split
        · omega
        · split <;> omega
def tRow (M : Mm) (s : Int) : Int := if 0 ≤ s ∧ s ≤ 7 then (if M.1 (68 + 2 * s.toNat) 0 = 10 then -3 else if 0 ≤ M.1 (68 + 2 * s.toNat) 0 ∧ M.1 (68 + 2 * s.toNat) 0 ≤ 4 then 0 else -4) else -2
theorem R_lowestBits (A : Nat) (v : Int) (hv : -9223372036854775808 ≤ v ∧ v < 9223372036854775808) (M : Mm) (hA : -1 ≤ M.1 A 0 ∧ M.1 A 0 ≤ 10) : en_Ct 1 0 66 [.inr (.inr (1, 4, A)), .inr (.inl v)] M (fun r M' => r = some (.inr (.inl (lowb (M.1 A 0) v))) ∧ M' = M) := by
  refine ct_66 rfl ?_
  refine aw_66_0 ?_
  refine tb_i (a := M.1 A 0) (by omega) ?_
  refine ⟨fun q1 => ?_, fun q1 => ?_⟩
  · refine aw_66_36 ?_
    refine ⟨congrArg (fun z => some (Sum.inr (Sum.inl z))) (show (en_wr (en_i2b v) : Int) = lowb (M.1 A 0) v from ?_), rfl⟩
    unfold lowb
    repeat first | rw [if_pos (by omega)] | rw [if_neg (by omega)]
  · refine ⟨fun q2 => ?_, fun q2 => ?_⟩
    · refine aw_66_41 ?_
      refine ⟨congrArg (fun z => some (Sum.inr (Sum.inl z))) (show (en_wr (en_i2s v) : Int) = lowb (M.1 A 0) v from ?_), rfl⟩
      unfold lowb
      repeat first | rw [if_pos (by omega)] | rw [if_neg (by omega)]
    · refine ⟨fun q3 => ?_, fun q3 => ?_⟩
      · refine aw_66_46 ?_
        refine ⟨congrArg (fun z => some (Sum.inr (Sum.inl z))) (show (en_wr v : Int) = lowb (M.1 A 0) v from ?_), rfl⟩
        unfold lowb
        repeat first | rw [if_pos (by omega)] | rw [if_neg (by omega)]
      · refine ⟨fun q4 => ?_, fun q4 => ?_⟩
        · refine aw_66_50 ?_
          refine ⟨congrArg (fun z => some (Sum.inr (Sum.inl z))) (show (v : Int) = lowb (M.1 A 0) v from ?_), rfl⟩
          unfold lowb
          repeat first | rw [if_pos (by omega)] | rw [if_neg (by omega)]
        · refine aw_66_52 ?_
          refine lc_eq (a := v) (b := 0) (a' := v) (b' := 0) (wl_of ⟨by omega, by omega⟩) (wl_of ⟨by omega, by omega⟩) (fun q5 => ?_) (fun q5 => ?_)
          · refine aw_66_62 ?_
            refine aw_66_63 ?_
            refine ⟨congrArg (fun z => some (Sum.inr (Sum.inl z))) (show (0 : Int) = lowb (M.1 A 0) v from ?_), rfl⟩
            unfold lowb
            repeat first | rw [if_pos (by omega)] | rw [if_neg (by omega)]
          · refine aw_66_63 ?_
            refine ⟨congrArg (fun z => some (Sum.inr (Sum.inl z))) (show (1 : Int) = lowb (M.1 A 0) v from ?_), rfl⟩
            unfold lowb
            repeat first | rw [if_pos (by omega)] | rw [if_neg (by omega)]
theorem R_fit (t : Int) (ht : -2147483648 ≤ t ∧ t < 2147483648) (v : Int) (hv : -9223372036854775808 ≤ v ∧ v < 9223372036854775808) (M : Mm) : en_Ct 1 0 146 [.inl t, .inr (.inl v)] M (fun r M' => r = some (.inr (.inl (lowb t v))) ∧ M' = M) := by
  refine ct_146 rfl ?_
  refine aw_146_0 ?_
  refine tb_i (a := t) (by omega) ?_
  refine ⟨fun q1 => ?_, fun q1 => ?_⟩
  · refine aw_146_32 ?_
    refine ⟨congrArg (fun z => some (Sum.inr (Sum.inl z))) (show (en_wr (en_i2b v) : Int) = lowb (t) v from ?_), rfl⟩
    unfold lowb
    repeat first | rw [if_pos (by omega)] | rw [if_neg (by omega)]
  · refine ⟨fun q2 => ?_, fun q2 => ?_⟩
    · refine aw_146_37 ?_
      refine ⟨congrArg (fun z => some (Sum.inr (Sum.inl z))) (show (en_wr (en_i2s v) : Int) = lowb (t) v from ?_), rfl⟩
      unfold lowb
      repeat first | rw [if_pos (by omega)] | rw [if_neg (by omega)]
    · refine ⟨fun q3 => ?_, fun q3 => ?_⟩
      · refine aw_146_42 ?_
        refine ⟨congrArg (fun z => some (Sum.inr (Sum.inl z))) (show (en_wr v : Int) = lowb (t) v from ?_), rfl⟩
        unfold lowb
        repeat first | rw [if_pos (by omega)] | rw [if_neg (by omega)]
      · refine ⟨fun q4 => ?_, fun q4 => ?_⟩
        · refine aw_146_46 ?_
          refine ⟨congrArg (fun z => some (Sum.inr (Sum.inl z))) (show (v : Int) = lowb (t) v from ?_), rfl⟩
          unfold lowb
          repeat first | rw [if_pos (by omega)] | rw [if_neg (by omega)]
        · refine aw_146_48 ?_
          refine lc_eq (a := v) (b := 0) (a' := v) (b' := 0) (wl_of ⟨by omega, by omega⟩) (wl_of ⟨by omega, by omega⟩) (fun q5 => ?_) (fun q5 => ?_)
          · refine aw_146_58 ?_
            refine aw_146_59 ?_
            refine ⟨congrArg (fun z => some (Sum.inr (Sum.inl z))) (show (0 : Int) = lowb (t) v from ?_), rfl⟩
            unfold lowb
            repeat first | rw [if_pos (by omega)] | rw [if_neg (by omega)]
          · refine aw_146_59 ?_
            refine ⟨congrArg (fun z => some (Sum.inr (Sum.inl z))) (show (1 : Int) = lowb (t) v from ?_), rfl⟩
            unfold lowb
            repeat first | rw [if_pos (by omega)] | rw [if_neg (by omega)]
theorem R_putS (A : Nat) (i v : Int) (hi : 0 ≤ i ∧ i < 40) (hv : -9223372036854775808 ≤ v ∧ v < 9223372036854775808) (M : Mm) (hA : -1 ≤ M.1 A 0 ∧ M.1 A 0 ≤ 10) : en_Ct 2 0 65 [.inr (.inr (1, 4, A)), .inl i, .inr (.inl v)] M (fun r M' => r = none ∧ M' = en_wL M (A + 1) i.toNat (lowb (M.1 A 0) v)) := by
  refine ct_65 rfl ?_
  refine aw_65_0 ?_
  refine ⟨1, 0, by first | decide | omega, by first | decide | omega, en_Ct_eq (R_lowestBits A v hv M (by omega)) ?_⟩
  refine ⟨i.toNat, it_nn (x := i) (by omega), (show i.toNat < 40 by omega), ?_⟩
  exact ⟨rfl, rfl⟩
theorem R_tRow (s : Int) (hs : -2147483648 ≤ s ∧ s < 2147483648) (M : Mm) (hS : cS M) : en_Ct 3 0 126 [.inr (.inr (1, 5, 0)), .inl s] M (fun r M' => r = some (.inl (tRow M s)) ∧ M' = M) := by
  have hA : (0 ≤ s ∧ s ≤ 7) → (-1 ≤ M.1 (68 + 2 * s.toNat) 0 ∧ M.1 (68 + 2 * s.toNat) 0 ≤ 10) := fun z => sh_X hS (by omega)
  refine ct_126 rfl ?_
  refine aw_126_0 ?_
  by_cases c1 : 0 ≤ s ∧ s ≤ 7
  · refine ⟨2, 0, by first | decide | omega, by first | decide | omega, en_Ct_t (R_isShelf s (by omega) _) c1 ?_⟩
    refine br_ne_y (by decide) (by decide) (by decide) ?_
    refine aw_126_10 ?_
    refine ⟨s.toNat, it_nn (x := s) (by omega), (show s.toNat < 8 by omega), ?_⟩
    by_cases c3 : M.1 (68 + 2 * s.toNat) 0 = 10
    · refine ⟨1, 0, by first | decide | omega, by first | decide | omega, en_Ct_t (R_hasWord (68 + 2 * s.toNat) M (by omega)) c3 ?_⟩
      refine br_eq_n (by decide) (by decide) (by decide) ?_
      refine ⟨congrArg (fun z => some (Sum.inl z)) (show ((-3) : Int) = tRow M s from ?_), rfl⟩
      unfold tRow
      repeat first | rw [if_pos (by omega)] | rw [if_neg (by omega)]
    · refine ⟨1, 0, by first | decide | omega, by first | decide | omega, en_Ct_f (R_hasWord (68 + 2 * s.toNat) M (by omega)) c3 ?_⟩
      refine br_eq_y (by decide) (by decide) (by decide) ?_
      refine aw_126_25 ?_
      refine ⟨s.toNat, it_nn (x := s) (by omega), (show s.toNat < 8 by omega), ?_⟩
      by_cases c6 : 0 ≤ M.1 (68 + 2 * s.toNat) 0 ∧ M.1 (68 + 2 * s.toNat) 0 ≤ 4
      · refine ⟨2, 0, by first | decide | omega, by first | decide | omega, en_Ct_t (R_hasRow (68 + 2 * s.toNat) M (by omega)) c6 ?_⟩
        refine br_eq_n (by decide) (by decide) (by decide) ?_
        refine aw_126_43 ?_
        refine ⟨congrArg (fun z => some (Sum.inl z)) (show (0 : Int) = tRow M s from ?_), rfl⟩
        unfold tRow
        repeat first | rw [if_pos (by omega)] | rw [if_neg (by omega)]
      · refine ⟨2, 0, by first | decide | omega, by first | decide | omega, en_Ct_f (R_hasRow (68 + 2 * s.toNat) M (by omega)) c6 ?_⟩
        refine br_eq_y (by decide) (by decide) (by decide) ?_
        refine aw_126_41 ?_
        refine aw_126_43 ?_
        refine ⟨congrArg (fun z => some (Sum.inl z)) (show ((-4) : Int) = tRow M s from ?_), rfl⟩
        unfold tRow
        repeat first | rw [if_pos (by omega)] | rw [if_neg (by omega)]
  · refine ⟨2, 0, by first | decide | omega, by first | decide | omega, en_Ct_f (R_isShelf s (by omega) _) c1 ?_⟩
    refine br_ne_n (by decide) (by decide) (by decide) ?_
    refine ⟨congrArg (fun z => some (Sum.inl z)) (show ((-2) : Int) = tRow M s from ?_), rfl⟩
    unfold tRow
    repeat first | rw [if_pos (by omega)] | rw [if_neg (by omega)]
theorem tRow_c (M : Mm) (s : Int) : (tRow M s = -2 ∧ ¬ (0 ≤ s ∧ s ≤ 7)) ∨ (tRow M s = -3 ∧ (0 ≤ s ∧ s ≤ 7) ∧ M.1 (68 + 2 * s.toNat) 0 = 10) ∨ (tRow M s = -4 ∧ (0 ≤ s ∧ s ≤ 7) ∧ M.1 (68 + 2 * s.toNat) 0 ≠ 10 ∧ ¬ (0 ≤ M.1 (68 + 2 * s.toNat) 0 ∧ M.1 (68 + 2 * s.toNat) 0 ≤ 4)) ∨ (tRow M s = 0 ∧ (0 ≤ s ∧ s ≤ 7) ∧ 0 ≤ M.1 (68 + 2 * s.toNat) 0 ∧ M.1 (68 + 2 * s.toNat) 0 ≤ 4) := by
  unfold tRow
  split
  · split
    · exact Or.inr (Or.inl ⟨rfl, ‹_›, ‹_›⟩)
    · split
      · exact Or.inr (Or.inr (Or.inr ⟨rfl, ‹_›, ‹_›⟩))
      · exact Or.inr (Or.inr (Or.inl ⟨rfl, ‹_›, ‹_›, ‹_›⟩))
  · exact Or.inl ⟨rfl, ‹_›⟩
theorem R_tRowv {s v : Int} (hs : -2147483648 ≤ s ∧ s < 2147483648) {M : Mm} (hS : cS M) (h : tRow M s = v) : en_Ct 3 0 126 [.inr (.inr (1, 5, 0)), .inl s] M (fun r M' => r = some (.inl v) ∧ M' = M) := h ▸ R_tRow s hs M hS
