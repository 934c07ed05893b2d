/-! the names that the reader knows -/
theorem by_b' : ∀ l ∈ en_by, ∀ x ∈ l, 97 ≤ x ∧ x ≤ 122 := by decide +kernel
theorem by_b {n i : Nat} (h : i < (en_by.getD n []).length) : 97 ≤ (en_by.getD n []).getD i 0 ∧ (en_by.getD n []).getD i 0 ≤ 122 := by
  have hm : (en_by.getD n []).getD i 0 ∈ en_by.getD n [] := by
    rw [List.getD_eq_getElem?_getD (l := en_by.getD n []), List.getElem?_eq_getElem h]
    exact List.getElem_mem h
  by_cases hn : n < en_by.length
  · refine by_b' (en_by.getD n []) ?_ _ hm
    rw [List.getD_eq_getElem?_getD, List.getElem?_eq_getElem hn]
    exact List.getElem_mem hn
  · rw [List.getD_eq_getElem?_getD (l := en_by), List.getElem?_eq_none (by omega)] at h
    exact absurd h (Nat.not_lt_zero i)
theorem ch_i' : ∀ a : Fin 128, en_i2c (en_and (a.val : Int) 255) = (a.val : Int) := by decide +kernel
theorem ch_i {a : Int} (h0 : 0 ≤ a) (h1 : a < 128) : en_i2c (en_and a 255) = a := by
  have h := ch_i' ⟨a.toNat, by omega⟩
  simp only [] at h
  rw [show ((a.toNat : Nat) : Int) = a by omega] at h
  exact h
theorem ln_b' : ∀ l ∈ en_by, l.length ≤ 7 := by decide +kernel
theorem ln_b (n : Nat) : en_ln n ≤ 7 := by
  unfold en_ln
  by_cases hn : n < en_by.length
  · refine ln_b' (en_by.getD n []) ?_
    rw [List.getD_eq_getElem?_getD, List.getElem?_eq_getElem hn]
    exact List.getElem_mem hn
  · rw [List.getD_eq_getElem?_getD, List.getElem?_eq_none (by omega)]
    exact Nat.zero_le _
theorem shr_0 {x : Nat} (h : x ≤ 7) : en_shr ((x : Nat) : Int) 0 = ((x : Nat) : Int) := (show ∀ x : Fin 8, en_shr ((x.val : Nat) : Int) 0 = ((x.val : Nat) : Int) by decide +kernel) ⟨x, by omega⟩
theorem R_coder (n : Nat) (M : Mm) : en_Ct 1 0 248 [.inr (.inr (7, n, 0))] M (fun r M' => r = some (.inl 0) ∧ M' = M) := by
  refine ct_248 rfl ?_
  refine aw_248_0 ?_
  refine br_eq_n (by decide) (by decide) (by decide) ?_
  refine aw_248_14 ?_
  exact ⟨⟨by decide, by decide⟩, rfl, rfl⟩
theorem R_lat (n : Nat) (M : Mm) : en_Ct 1 0 249 [.inr (.inr (7, n, 0))] M (fun r M' => r = some (.inl 1) ∧ M' = M) := by
  refine ct_249 rfl ?_
  refine aw_249_0 ?_
  refine br_eq_n (by decide) (by decide) (by decide) ?_
  refine br_ne_n (by decide) (by decide) (by decide) ?_
  refine aw_249_18 ?_
  exact ⟨Or.inr rfl, rfl, rfl⟩
theorem R_len (n : Nat) (M : Mm) : en_Ct 2 0 246 [.inr (.inr (7, n, 0))] M (fun r M' => r = some (.inl ((en_ln n : Nat) : Int)) ∧ M' = M) := by
  refine ct_246 rfl ?_
  refine aw_246_0 ?_
  refine ⟨1, 0, by first | decide | omega, by first | decide | omega, en_Ct_eq (R_coder n M) ?_⟩
  exact ⟨congrArg (fun z => some (Sum.inl z)) (shr_0 (ln_b n)), rfl⟩
theorem R_ci3 (i k : Nat) (hi : i < k) (hk : k ≤ 7) (M : Mm) : en_Ct 1 0 256 [.inl ((i : Nat) : Int), .inl ((k : Nat) : Int), .inr (.inr (10, 0, 0))] M (fun r M' => r = some (.inl ((i : Nat) : Int)) ∧ M' = M) := by
  refine ct_256 rfl ?_
  refine aw_256_0 ?_
  refine br_lt_n (a := ((i : Nat) : Int)) (b := 0) (by omega) (by omega) (by omega) ?_
  refine br_lt_y (a := ((i : Nat) : Int)) (b := ((k : Nat) : Int)) (by omega) (by omega) (by omega) ?_
  refine aw_256_16 ?_
  exact ⟨rfl, rfl⟩
theorem R_ci0 (i k : Nat) (hi : i < k) (hk : k ≤ 7) (M : Mm) : en_Ct 2 0 250 [.inl ((i : Nat) : Int), .inl ((k : Nat) : Int)] M (fun r M' => r = none ∧ M' = M) := by
  refine ct_250 rfl ?_
  refine aw_250_0 ?_
  refine ⟨1, 0, by first | decide | omega, by first | decide | omega, en_Ct_eq (R_ci3 i k hi hk M) ?_⟩
  exact ⟨rfl, rfl⟩
theorem R_ca1 (n i : Nat) (hi : i < en_ln n) (M : Mm) : en_Ct 3 0 251 [.inr (.inr (8, n, 0)), .inl ((i : Nat) : Int)] M (fun r M' => r = some (.inl ((en_by.getD n []).getD i 0)) ∧ M' = M) := by
  have hb := by_b (n := n) (i := i) hi
  have hl := ln_b n
  refine ct_251 rfl ?_
  refine aw_251_0 ?_
  refine ⟨2, 0, by first | decide | omega, by first | decide | omega, en_Ct_eq (R_ci0 i (en_ln n) hi (ln_b n) M) ?_⟩
  refine ⟨i, rfl, (show i < en_ln n by omega), ?_⟩
  have e := ch_i (a := (en_by.getD n []).getD i 0) (by omega) (by omega)
  refine ⟨?_, congrArg (fun z => some (Sum.inl z)) e, rfl⟩
  show 0 ≤ en_i2c (en_and ((en_by.getD n []).getD i 0) 255) ∧ en_i2c (en_and ((en_by.getD n []).getD i 0) 255) < 128
  rw [e]
  omega
theorem R_charAt (n i : Nat) (hi : i < en_ln n) (M : Mm) : en_Ct 4 0 247 [.inr (.inr (7, n, 0)), .inl ((i : Nat) : Int)] M (fun r M' => r = some (.inl ((en_by.getD n []).getD i 0)) ∧ M' = M) := by
  have hb := by_b (n := n) (i := i) hi
  refine ct_247 rfl ?_
  refine aw_247_0 ?_
  refine ⟨1, 0, by first | decide | omega, by first | decide | omega, en_Ct_eq (R_lat n M) ?_⟩
  refine br_eq_n (by decide) (by decide) (by decide) ?_
  refine ⟨3, 0, by first | decide | omega, by first | decide | omega, en_Ct_eq (R_ca1 n i hi M) ?_⟩
  exact ⟨⟨by omega, by omega⟩, rfl, rfl⟩
