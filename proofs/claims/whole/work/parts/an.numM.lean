/-! the reference's numbers -/
def frH (M K : Mm) : Prop := K.2 = M.2 ∧ (∀ a, a ≠ 84 → a ≠ 116 → K.1 a = M.1 a) ∧ ∀ i, i ≠ 26 → i ≠ 27 → i ≠ 28 → i ≠ 29 → i ≠ 30 → K.1 84 i = M.1 84 i
theorem frH_rfl {M : Mm} : frH M M := ⟨rfl, fun _ _ _ => rfl, fun _ _ _ _ _ _ => rfl⟩
theorem frH_tr {M K K' : Mm} (h : frH M K) (h' : frH K K') : frH M K' := ⟨h'.1.trans h.1, fun a z1 z2 => (h'.2.1 a z1 z2).trans (h.2.1 a z1 z2), fun i z1 z2 z3 z4 z5 => (h'.2.2 i z1 z2 z3 z4 z5).trans (h.2.2 i z1 z2 z3 z4 z5)⟩
theorem frH_8 {M K : Mm} (h : fr84 M K) : frH M K := ⟨h.1, fun a z _ => h.2.1 a z, fun i z1 z2 z3 z4 _ => h.2.2 i z1 z2 z3 z4⟩
theorem frH_30 {M : Mm} {v : Int} : frH M (en_wI M 84 30 v) := ⟨rfl, fun a z _ => wI_ne z, fun i _ _ _ _ z => w84_n z⟩
theorem tp_H {M K : Mm} {f : Nat → Int} {Z : Nat} (h : tpO M 99 f Z) (hF : frH M K) : tpO K 99 f Z := ⟨by rw [hF.2.1 99 (by decide) (by decide)]; exact h.1, h.2.1, h.2.2⟩
theorem vl_in {f : Nat → Int} {k : Nat × Int × Nat} (hk : k.1 ≤ k.2.2) (hd : dgt f k) {x : Int} (hx : x = if k.2.1 = 2 then vl f k else 0) : 0 ≤ x ∧ x ≤ 10000 := by
  by_cases z : k.2.1 = 2
  · rw [if_pos z] at hx
    have := vl_b hk hd z
    omega
  · rw [if_neg z] at hx
    omega
theorem R_wrong (M : Mm) : en_Ct 1 0 176 [.inr (.inr (1, 6, 84))] M (fun r M' => r = some (.inl 0) ∧ M' = en_wI M 84 30 (M.1 84 28)) := by
  refine ct_176 rfl ?_
  refine aw_176_0 ?_
  exact ⟨Or.inl rfl, rfl, rfl⟩
theorem R_nbT (f : Nat → Int) (Z : Nat) (M : Mm) (hT : tpO M 99 f Z) (hz : M.1 84 7 = ((Z : Nat) : Int)) (k : Nat × Int × Nat) (hk : k.1 ≤ k.2.2 ∧ k.2.2 ≤ Z) (hk4 : 0 ≤ k.2.1 ∧ k.2.1 ≤ 4) (hd : dgt f k) (hR : isL M f k) (c : Nat) (hc : c < 5) (lo hi : Int) (hlo : 0 ≤ lo ∧ lo ≤ 600) (hhi : -1 ≤ hi ∧ hi ≤ 600) (hok : numO f k lo hi) : en_Ct 4 0 178 [.inr (.inr (1, 6, 84)), .inl ((c : Nat) : Int), .inl lo, .inl hi] M (fun r M' => r = some (.inl 1) ∧ frH M M' ∧ isL M' f (tok f Z k.2.2) ∧ ∀ i, M'.1 116 i = if i = c then vl f k else M.1 116 i) := by
  have hZ := hT.2.1
  obtain ⟨h28, h27, h26, h29⟩ := hR
  have vi := vl_in hk.1 hd h29
  have h29b : k.2.1 = 2 → M.1 84 29 = vl f k := fun z => by rw [h29, if_pos z]
  obtain ⟨o1, o2, o3⟩ := hok
  have o4 := h29b o1
  refine ct_178 rfl ?_
  refine aw_178_0 ?_
  refine br_ne (a := M.1 84 27) (b := 2) (by omega) (by omega) (fun q1 => ?_) (fun q1 => ?_)
  · refine aw_178_23 ?_
    refine ⟨1, 0, by first | decide | omega, by first | decide | omega, en_Ct_eq (R_wrong M) ?_⟩
    exfalso
    omega
  · by_cases c2 : lo ≤ (M.1 84 29) ∧ (M.1 84 29) ≤ hi
    · refine ⟨1, 0, by first | decide | omega, by first | decide | omega, en_Ct_t (R_in (en_wr (M.1 84 29)) (en_wr lo) (en_wr hi) (M.1 84 29) lo hi (wl_wr ⟨by omega, by omega⟩) (wl_wr ⟨by omega, by omega⟩) (wl_wr ⟨by omega, by omega⟩) _) c2 ?_⟩
      refine br_ne_y (by decide) (by decide) (by decide) ?_
      refine aw_178_28 ?_
      refine ⟨c, rfl, (show c < 5 by omega), ?_⟩
      refine ⟨3, 0, by first | decide | omega, by first | decide | omega, en_Ct_mono (R_look f Z (en_wI M 116 c (M.1 84 29)) ⟨hT.1, hT.2⟩ hz k.2.2 hk.2 h26) ?_⟩
      rintro _ K ⟨rfl, hF, hRK⟩
      refine ⟨Or.inr rfl, rfl, ⟨hF.1, fun a z1 z2 => ?_, fun i z1 z2 z3 z4 z5 => ?_⟩, hRK, fun i => ?_⟩
      · rw [hF.2.1 a z1, wI_ne z2]
      · rw [hF.2.2 i z1 z2 z3 z4, wI_ne (by decide)]
      · rw [hF.2.1 116 (by decide), ← h29b o1]
        rfl
    · refine ⟨1, 0, by first | decide | omega, by first | decide | omega, en_Ct_f (R_in (en_wr (M.1 84 29)) (en_wr lo) (en_wr hi) (M.1 84 29) lo hi (wl_wr ⟨by omega, by omega⟩) (wl_wr ⟨by omega, by omega⟩) (wl_wr ⟨by omega, by omega⟩) _) c2 ?_⟩
      refine br_ne_n (by decide) (by decide) (by decide) ?_
      refine aw_178_23 ?_
      refine ⟨1, 0, by first | decide | omega, by first | decide | omega, en_Ct_eq (R_wrong M) ?_⟩
      exfalso
      omega
theorem R_nbF (f : Nat → Int) (Z : Nat) (M : Mm) (hT : tpO M 99 f Z) (hz : M.1 84 7 = ((Z : Nat) : Int)) (k : Nat × Int × Nat) (hk : k.1 ≤ k.2.2 ∧ k.2.2 ≤ Z) (hk4 : 0 ≤ k.2.1 ∧ k.2.1 ≤ 4) (hd : dgt f k) (hR : isL M f k) (c : Nat) (hc : c < 5) (lo hi : Int) (hlo : 0 ≤ lo ∧ lo ≤ 600) (hhi : -1 ≤ hi ∧ hi ≤ 600) (hok : ¬ numO f k lo hi) : en_Ct 4 0 178 [.inr (.inr (1, 6, 84)), .inl ((c : Nat) : Int), .inl lo, .inl hi] M (fun r M' => r = some (.inl 0) ∧ frH M M' ∧ M'.1 84 30 = ((k.1 : Nat) : Int)) := by
  have hZ := hT.2.1
  obtain ⟨h28, h27, h26, h29⟩ := hR
  have vi := vl_in hk.1 hd h29
  have h29b : k.2.1 = 2 → M.1 84 29 = vl f k := fun z => by rw [h29, if_pos z]
  have hok2 : k.2.1 = 2 → lo ≤ vl f k → vl f k ≤ hi → False := fun z1 z2 z3 => hok ⟨z1, z2, z3⟩
  refine ct_178 rfl ?_
  refine aw_178_0 ?_
  refine br_ne (a := M.1 84 27) (b := 2) (by omega) (by omega) (fun q1 => ?_) (fun q1 => ?_)
  · refine aw_178_23 ?_
    refine ⟨1, 0, by first | decide | omega, by first | decide | omega, en_Ct_eq (R_wrong M) ?_⟩
    exact ⟨Or.inl rfl, rfl, frH_30, by rw [w84_s]; exact h28⟩
  · by_cases c2 : lo ≤ (M.1 84 29) ∧ (M.1 84 29) ≤ hi
    · refine ⟨1, 0, by first | decide | omega, by first | decide | omega, en_Ct_t (R_in (en_wr (M.1 84 29)) (en_wr lo) (en_wr hi) (M.1 84 29) lo hi (wl_wr ⟨by omega, by omega⟩) (wl_wr ⟨by omega, by omega⟩) (wl_wr ⟨by omega, by omega⟩) _) c2 ?_⟩
      refine br_ne_y (by decide) (by decide) (by decide) ?_
      have o4 := h29b (by omega)
      exact absurd (hok2 (by omega) (by omega) (by omega)) id
    · refine ⟨1, 0, by first | decide | omega, by first | decide | omega, en_Ct_f (R_in (en_wr (M.1 84 29)) (en_wr lo) (en_wr hi) (M.1 84 29) lo hi (wl_wr ⟨by omega, by omega⟩) (wl_wr ⟨by omega, by omega⟩) (wl_wr ⟨by omega, by omega⟩) _) c2 ?_⟩
      refine br_ne_n (by decide) (by decide) (by decide) ?_
      refine aw_178_23 ?_
      refine ⟨1, 0, by first | decide | omega, by first | decide | omega, en_Ct_eq (R_wrong M) ?_⟩
      exact ⟨Or.inl rfl, rfl, frH_30, by rw [w84_s]; exact h28⟩
def frA (M K : Mm) : Prop := K.2 = M.2 ∧ (∀ a, a ≠ 84 → a ≠ 115 → a ≠ 116 → K.1 a = M.1 a) ∧ ∀ i, i ≠ 26 → i ≠ 27 → i ≠ 28 → i ≠ 29 → i ≠ 30 → K.1 84 i = M.1 84 i
theorem R_ahT (f : Nat → Int) (Z : Nat) (M : Mm) (hT : tpO M 99 f Z) (hz : M.1 84 7 = ((Z : Nat) : Int)) (k : Nat × Int × Nat) (hk : k.1 ≤ k.2.2 ∧ k.2.2 ≤ Z) (hk4 : 0 ≤ k.2.1 ∧ k.2.1 ≤ 4) (hd : dgt f k) (hR : isL M f k) (c : Nat) (hc : c < 6) (hok : k.2.1 = 2 ∧ okA ((c : Nat) : Int) (vl f k)) : en_Ct 4 0 181 [.inr (.inr (1, 6, 84)), .inl ((c : Nat) : Int)] M (fun r M' => r = some (.inl 1) ∧ fr84 (en_wI M 115 c (vl f k)) M' ∧ isL M' f (tok f Z k.2.2)) := by
  have hZ := hT.2.1
  obtain ⟨h28, h27, h26, h29⟩ := hR
  have vi := vl_in hk.1 hd h29
  have h29b : k.2.1 = 2 → M.1 84 29 = vl f k := fun z => by rw [h29, if_pos z]
  obtain ⟨o1, o2⟩ := hok
  have o4 := h29b o1
  rw [← o4] at o2
  refine ct_181 rfl ?_
  refine aw_181_0 ?_
  refine br_ne (a := M.1 84 27) (b := 2) (by omega) (by omega) (fun q1 => ?_) (fun q1 => ?_)
  · refine aw_181_19 ?_
    refine ⟨1, 0, by first | decide | omega, by first | decide | omega, en_Ct_eq (R_wrong M) ?_⟩
    exfalso
    first | omega | contradiction
  · by_cases c2 : okA ((c : Nat) : Int) (M.1 84 29)
    · refine ⟨2, 0, by first | decide | omega, by first | decide | omega, en_Ct_t (R_mayAsk ((c : Nat) : Int) (M.1 84 29) (by omega) (by omega) _) c2 ?_⟩
      refine br_ne_y (by decide) (by decide) (by decide) ?_
      refine aw_181_24 ?_
      refine ⟨c, rfl, (show c < 8 by omega), ?_⟩
      refine ⟨3, 0, by first | decide | omega, by first | decide | omega, en_Ct_mono (R_look f Z (en_wI M 115 c (M.1 84 29)) ⟨hT.1, hT.2⟩ hz k.2.2 hk.2 h26) ?_⟩
      rintro _ K ⟨rfl, hF, hRK⟩
      rw [← o4]
      exact ⟨Or.inr rfl, rfl, hF, hRK⟩
    · refine ⟨2, 0, by first | decide | omega, by first | decide | omega, en_Ct_f (R_mayAsk ((c : Nat) : Int) (M.1 84 29) (by omega) (by omega) _) c2 ?_⟩
      refine br_ne_n (by decide) (by decide) (by decide) ?_
      refine aw_181_19 ?_
      refine ⟨1, 0, by first | decide | omega, by first | decide | omega, en_Ct_eq (R_wrong M) ?_⟩
      exfalso
      first | omega | contradiction
theorem R_ahF (f : Nat → Int) (Z : Nat) (M : Mm) (hT : tpO M 99 f Z) (hz : M.1 84 7 = ((Z : Nat) : Int)) (k : Nat × Int × Nat) (hk : k.1 ≤ k.2.2 ∧ k.2.2 ≤ Z) (hk4 : 0 ≤ k.2.1 ∧ k.2.1 ≤ 4) (hd : dgt f k) (hR : isL M f k) (c : Nat) (hc : c < 6) (hok : ¬ (k.2.1 = 2 ∧ okA ((c : Nat) : Int) (vl f k))) : en_Ct 4 0 181 [.inr (.inr (1, 6, 84)), .inl ((c : Nat) : Int)] M (fun r M' => r = some (.inl 0) ∧ frH M M' ∧ M'.1 84 30 = ((k.1 : Nat) : Int)) := by
  have hZ := hT.2.1
  obtain ⟨h28, h27, h26, h29⟩ := hR
  have vi := vl_in hk.1 hd h29
  have h29b : k.2.1 = 2 → M.1 84 29 = vl f k := fun z => by rw [h29, if_pos z]
  refine ct_181 rfl ?_
  refine aw_181_0 ?_
  refine br_ne (a := M.1 84 27) (b := 2) (by omega) (by omega) (fun q1 => ?_) (fun q1 => ?_)
  · refine aw_181_19 ?_
    refine ⟨1, 0, by first | decide | omega, by first | decide | omega, en_Ct_eq (R_wrong M) ?_⟩
    exact ⟨Or.inl rfl, rfl, frH_30, by rw [w84_s]; exact h28⟩
  · by_cases c2 : okA ((c : Nat) : Int) (M.1 84 29)
    · refine ⟨2, 0, by first | decide | omega, by first | decide | omega, en_Ct_t (R_mayAsk ((c : Nat) : Int) (M.1 84 29) (by omega) (by omega) _) c2 ?_⟩
      refine br_ne_y (by decide) (by decide) (by decide) ?_
      have o4 := h29b (by omega)
      exact absurd ⟨by omega, by rw [← o4]; assumption⟩ hok
    · refine ⟨2, 0, by first | decide | omega, by first | decide | omega, en_Ct_f (R_mayAsk ((c : Nat) : Int) (M.1 84 29) (by omega) (by omega) _) c2 ?_⟩
      refine br_ne_n (by decide) (by decide) (by decide) ?_
      refine aw_181_19 ?_
      refine ⟨1, 0, by first | decide | omega, by first | decide | omega, en_Ct_eq (R_wrong M) ?_⟩
      exact ⟨Or.inl rfl, rfl, frH_30, by rw [w84_s]; exact h28⟩
