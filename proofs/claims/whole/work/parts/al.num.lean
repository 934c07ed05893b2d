/-! numbers -/
def nv (f : Nat → Int) (s : Nat) : Nat → Int
  | 0 => 0
  | n + 1 => nv f s n * 10 + f (s + n) - 48
def fg (f : Nat → Int) (s n : Nat) : Int := if n ≤ 3 then nv f s n else 10000
def dgt (f : Nat → Int) (k : Nat × Int × Nat) : Prop := k.2.1 = 2 → ∀ i, k.1 ≤ i → i < k.2.2 → 48 ≤ f i ∧ f i ≤ 57
theorem nv_b {f : Nat → Int} {s b : Nat} (h : ∀ i, s ≤ i → i < b → 48 ≤ f i ∧ f i ≤ 57) : ∀ n, s + n ≤ b → 0 ≤ nv f s n ∧ nv f s n < 10 ^ n
  | 0, _ => by simp [nv]
  | n + 1, hn => by
    have ih := nv_b h n (by omega)
    have hd := h (s + n) (by omega) (by omega)
    rw [nv, Int.pow_succ]
    generalize (10 : Int) ^ n = t at *
    omega
theorem nv_3 {f : Nat → Int} {s b n : Nat} (h : ∀ i, s ≤ i → i < b → 48 ≤ f i ∧ f i ≤ 57) (hn : s + n ≤ b) (h3 : n ≤ 3) : 0 ≤ nv f s n ∧ nv f s n < 1000 := by
  have := nv_b h n hn
  rcases (show n = 0 ∨ n = 1 ∨ n = 2 ∨ n = 3 by omega) with e | e | e | e <;> subst e
  · exact ⟨this.1, Int.lt_of_lt_of_le this.2 (by decide)⟩
  · exact ⟨this.1, Int.lt_of_lt_of_le this.2 (by decide)⟩
  · exact ⟨this.1, Int.lt_of_lt_of_le this.2 (by decide)⟩
  · exact ⟨this.1, Int.lt_of_lt_of_le this.2 (by decide)⟩
theorem srtO_2 {x : Int} (h : srtO x = 2) : 48 ≤ x ∧ x ≤ 57 := by
  unfold srtO at h
  by_cases z : 97 ≤ x ∧ x ≤ 122
  · rw [if_pos z] at h; omega
  · rw [if_neg z] at h
    by_cases z2 : 48 ≤ x ∧ x ≤ 57
    · exact z2
    · rw [if_neg z2] at h
      split at h <;> omega
theorem ext_all {f : Nat → Int} {t : Int} : ∀ n b i, b ≤ i → i < ext f t n b → srtO (f i) = t
  | 0, b, i, h1, h2 => by rw [ext] at h2; omega
  | n + 1, b, i, h1, h2 => by
    rw [ext] at h2
    by_cases z : srtO (f b) = t
    · rw [if_pos z] at h2
      by_cases e : i = b
      · rw [e]; exact z
      · exact ext_all n (b + 1) i (by omega) h2
    · rw [if_neg z] at h2; omega
theorem tok_d {f : Nat → Int} {Z b : Nat} : dgt f (tok f Z b) := by
  unfold dgt tok
  by_cases z : tkS f Z b = Z
  · rw [if_pos z]
    intro h
    exact absurd (show (0 : Int) = 2 from h) (by decide)
  · rw [if_neg z]
    intro h i h1 h2
    dsimp only at h h1 h2
    refine srtO_2 ?_
    rw [h] at h2
    rw [if_pos (Or.inr rfl)] at h2
    by_cases e : i = tkS f Z b
    · rw [e]; exact h
    · exact ext_all _ _ i (by omega) h2
theorem nv_c {f g : Nat → Int} {Z s : Nat} (h : ∀ i, i < Z → f i = g i) : ∀ n, s + n ≤ Z → nv f s n = nv g s n
  | 0, _ => rfl
  | n + 1, hn => by rw [nv, nv, nv_c h n (by omega), h (s + n) (by omega)]
def vl (f : Nat → Int) (k : Nat × Int × Nat) : Int := fg f k.1 (k.2.2 - k.1)
theorem vl_c {f g : Nat → Int} {Z : Nat} {k : Nat × Int × Nat} (h : ∀ i, i < Z → f i = g i) (hk : k.1 ≤ k.2.2 ∧ k.2.2 ≤ Z) : vl f k = vl g k := by
  unfold vl fg
  rw [nv_c h _ (by omega)]
def numO (f : Nat → Int) (k : Nat × Int × Nat) (lo hi : Int) : Prop := k.2.1 = 2 ∧ lo ≤ vl f k ∧ vl f k ≤ hi
theorem vl_b {f : Nat → Int} {k : Nat × Int × Nat} (hk : k.1 ≤ k.2.2) (hd : dgt f k) (h2 : k.2.1 = 2) : 0 ≤ vl f k ∧ vl f k ≤ 10000 := by
  unfold vl fg
  split
  · have := nv_3 (hd h2) (n := k.2.2 - k.1) (by omega) (by assumption)
    omega
  · omega
theorem L_val {post : Option AV → Mm → Prop} (f : Nat → Int) (Z : Nat) (M : Mm) (hT : tpO M 62 f Z) (k : Nat × Int × Nat) (hk : k.1 ≤ k.2.2 ∧ k.2.2 ≤ Z) (hd : dgt f k) (hR : isR M k) (ht : k.2.1 = 2) (hl3 : k.2.2 - k.1 ≤ 3) (hq : post (some (.inl (vl f k))) M) : ∀ (n : Nat) (i : Nat), (k.1 + i + n = k.2.2) → en_AW 1 0 58 post 22 [some (.inr (.inr (1, 3, 61))), some (.inl (nv f k.1 i)), some (.inl ((k.1 + i : Nat) : Int))] [] M 0 := by
  intro n
  induction n with
  | zero =>
    intro i hi
    have hZ := hT.2.1
    obtain ⟨h2, h4, h3⟩ := hR
    refine aw_58_22 ?_
    refine br_ge_y (a := ((k.1 + i : Nat) : Int)) (b := M.1 61 3) (by omega) (by omega) (by omega) ?_
    refine aw_58_51 ?_
    have e : nv f k.1 i = vl f k := by unfold vl fg; rw [if_pos hl3, show k.2.2 - k.1 = i by omega]
    rw [e]
    exact hq
  | succ n ih =>
    intro i hi
    have hZ := hT.2.1
    obtain ⟨h2, h4, h3⟩ := hR
    have hfi := hd ht (k.1 + i) (by omega) (by omega)
    have hnv := nv_3 (hd ht) (n := i) (by omega) (by omega)
    have kf : M.1 62 (k.1 + i) = f (k.1 + i) := by rw [hT.1]
    refine aw_58_22 ?_
    refine br_ge_n (a := ((k.1 + i : Nat) : Int)) (b := M.1 61 3) (by omega) (by omega) (by omega) ?_
    refine ⟨k.1 + i, rfl, (show k.1 + i < 250 by omega), ?_⟩
    refine en_AW_ls (congrArg (fun z_ : Int => ([some (.inr (.inr (1, 3, 61))), some (.inl z_), some (.inl (((k.1 + i : Nat) : Int) + 1))] : AL)) (show (((nv f k.1 i) * 10) + (M.1 62 (k.1 + i))) - 48 = nv f k.1 (i + 1) from by rw [nv, ← kf])) ?_
    refine en_AW_ls (congrArg (fun z_ : Int => ([some (.inr (.inr (1, 3, 61))), some (.inl (nv f k.1 (i + 1))), some (.inl z_)] : AL)) (show ((k.1 + i : Nat) : Int) + 1 = ((k.1 + (i + 1) : Nat) : Int) from by omega)) ?_
    exact ih (i + 1) (by omega)
theorem R_value (f : Nat → Int) (Z : Nat) (M : Mm) (hT : tpO M 62 f Z) (k : Nat × Int × Nat) (hk : k.1 ≤ k.2.2 ∧ k.2.2 ≤ Z) (hd : dgt f k) (hR : isR M k) (ht : k.2.1 = 2) : en_Ct 1 0 58 [.inr (.inr (1, 3, 61))] M (fun r M' => r = some (.inl (if k.2.2 - k.1 ≤ 3 then vl f k else -1)) ∧ M' = M) := by
  have hZ := hT.2.1
  obtain ⟨h2, h4, h3⟩ := hR
  refine ct_58 rfl ?_
  refine aw_58_0 ?_
  refine br_le (a := (M.1 61 3) - (M.1 61 2)) (b := 3) (by omega) (by omega) (fun q1 => ?_) (fun q1 => ?_)
  · refine aw_58_15 ?_
    refine en_AW_ls (congrArg (fun z_ : Int => ([some (.inr (.inr (1, 3, 61))), some (.inl 0), some (.inl z_)] : AL)) (show M.1 61 2 = ((k.1 + 0 : Nat) : Int) from h2)) ?_
    rw [if_pos (by omega)]
    exact L_val f Z M hT k hk hd ⟨h2, h4, h3⟩ ht (by omega) ⟨rfl, rfl⟩ (k.2.2 - k.1) 0 (by omega)
  · rw [if_neg (by omega)]
    exact ⟨rfl, rfl⟩
def frN (M K : Mm) : Prop := K.2 = M.2 ∧ (∀ a, a ≠ 61 → a ≠ 63 → K.1 a = M.1 a) ∧ ∀ i, i ≠ 2 → i ≠ 3 → i ≠ 4 → i ≠ 8 → K.1 61 i = M.1 61 i
theorem frN_rfl {M : Mm} : frN M M := ⟨rfl, fun _ _ _ => rfl, fun _ _ _ _ _ => rfl⟩
theorem frN_tr {M K K' : Mm} (h : frN M K) (h' : frN K K') : frN M K' := ⟨h'.1.trans h.1, fun a z1 z2 => (h'.2.1 a z1 z2).trans (h.2.1 a z1 z2), fun i z1 z2 z3 z4 => (h'.2.2 i z1 z2 z3 z4).trans (h.2.2 i z1 z2 z3 z4)⟩
theorem frN_6 {M K : Mm} (h : fr61 M K) : frN M K := ⟨h.1, fun a z _ => h.2.1 a z, fun i z1 z2 z3 _ => h.2.2 i z1 z2 z3⟩
theorem tp_N {M K : Mm} {f : Nat → Int} {Z : Nat} (h : tpO M 62 f Z) (hF : frN M K) : tpO K 62 f Z := ⟨by rw [hF.2.1 62 (by decide) (by decide)]; exact h.1, h.2.1, h.2.2⟩
theorem R_rnT (f : Nat → Int) (Z : Nat) (M : Mm) (hT : tpO M 62 f Z) (hz : M.1 61 0 = ((Z : Nat) : Int)) (k : Nat × Int × Nat) (hk : k.1 ≤ k.2.2 ∧ k.2.2 ≤ Z) (hk4 : 0 ≤ k.2.1 ∧ k.2.1 ≤ 4) (hd : dgt f k) (hR : isR M k) (c : Nat) (hc : c < 5) (h8 : M.1 61 8 = ((c : Nat) : Int)) (lo hi : Int) (hlo : 0 ≤ lo ∧ lo ≤ 600) (hhi : -1 ≤ hi ∧ hi ≤ 600) (hok : numO f k lo hi) : en_Ct 4 0 57 [.inr (.inr (1, 3, 61)), .inl lo, .inl hi] M (fun r M' => r = some (.inl 1) ∧ frN M M' ∧ isR M' (tok f Z k.2.2) ∧ M'.1 61 8 = ((c : Nat) : Int) + 1 ∧ ∀ i, M'.1 63 i = if i = c then vl f k else M.1 63 i) := by
  have hZ := hT.2.1
  obtain ⟨h2, h4, h3⟩ := hR
  obtain ⟨o1, o2, o3⟩ := hok
  refine ct_57 rfl ?_
  refine aw_57_0 ?_
  refine br_ne (a := M.1 61 4) (b := 2) (by omega) (by omega) (fun q1 => ?_) (fun q1 => ?_)
  · refine aw_57_20 ?_
    exfalso
    omega
  · refine br_lt (a := M.1 61 8) (b := ((5 : Nat) : Int)) (by omega) (by omega) (fun q2 => ?_) (fun q2 => ?_)
    · refine aw_57_22 ?_
      have vb := vl_b hk.1 hd (by omega)
      have hv : (k.2.2 - k.1 ≤ 3 ∧ (if k.2.2 - k.1 ≤ 3 then vl f k else -1) = vl f k) ∨ (¬ k.2.2 - k.1 ≤ 3 ∧ (if k.2.2 - k.1 ≤ 3 then vl f k else -1) = -1 ∧ vl f k = 10000) := by
        by_cases z : k.2.2 - k.1 ≤ 3
        · rw [if_pos z]; exact Or.inl ⟨z, rfl⟩
        · rw [if_neg z]; exact Or.inr ⟨z, rfl, by unfold vl fg; rw [if_neg z]⟩
      refine ⟨1, 0, by first | decide | omega, by first | decide | omega, en_Ct_eq (R_value f Z M hT k hk hd ⟨h2, h4, h3⟩ (by omega)) ?_⟩
      refine br_eq (a := if k.2.2 - k.1 ≤ 3 then vl f k else -1) (b := (-1)) (by omega) (by omega) (fun q3 => ?_) (fun q3 => ?_)
      · refine aw_57_41 ?_
        exfalso
        omega
      · by_cases c4 : lo ≤ (if k.2.2 - k.1 ≤ 3 then vl f k else -1) ∧ (if k.2.2 - k.1 ≤ 3 then vl f k else -1) ≤ hi
        · refine ⟨1, 0, by first | decide | omega, by first | decide | omega, en_Ct_t (R_within (if k.2.2 - k.1 ≤ 3 then vl f k else -1) lo hi (by omega) (by omega) (by omega) _) c4 ?_⟩
          refine br_ne_y (by decide) (by decide) (by decide) ?_
          refine aw_57_43 ?_
          refine ⟨(M.1 61 8).toNat, it_nn (x := M.1 61 8) (by omega), (show (M.1 61 8).toNat < 5 by omega), ?_⟩
          refine ⟨3, 0, by first | decide | omega, by first | decide | omega, en_Ct_mono (R_tstep f Z (en_wI (en_wI M 63 ((M.1 61 8).toNat) (if k.2.2 - k.1 ≤ 3 then vl f k else -1)) 61 8 (((en_wI M 63 ((M.1 61 8).toNat) (if k.2.2 - k.1 ≤ 3 then vl f k else -1)).1 61 8) + 1)) ⟨hT.1, hT.2⟩ hz k.2.2 hk.2 h3) ?_⟩
          rintro _ K ⟨rfl, hF, hRK⟩
          have ev : (if k.2.2 - k.1 ≤ 3 then vl f k else -1) = vl f k := by omega
          refine ⟨Or.inr rfl, rfl, ⟨hF.1, fun a z1 z2 => ?_, fun i z1 z2 z3 z4 => ?_⟩, hRK, ?_, fun i => ?_⟩
          · rw [hF.2.1 a z1, wI_ne z1, wI_ne z2]
          · rw [hF.2.2 i z1 z2 z3, w61_n z4, wI_ne (by decide)]
          · rw [hF.2.2 8 (by decide) (by decide) (by decide), w61_s, wI_ne (by decide), h8]
          · rw [hF.2.1 63 (by decide), wI_ne (by decide)]
            show (if i = (M.1 61 8).toNat then (if k.2.2 - k.1 ≤ 3 then vl f k else -1) else M.1 63 i) = _
            rw [h8, Int.toNat_natCast, ev]
        · refine ⟨1, 0, by first | decide | omega, by first | decide | omega, en_Ct_f (R_within (if k.2.2 - k.1 ≤ 3 then vl f k else -1) lo hi (by omega) (by omega) (by omega) _) c4 ?_⟩
          refine br_ne_n (by decide) (by decide) (by decide) ?_
          refine aw_57_41 ?_
          exfalso
          omega
    · refine aw_57_20 ?_
      exfalso
      omega
theorem R_rnF (f : Nat → Int) (Z : Nat) (M : Mm) (hT : tpO M 62 f Z) (hz : M.1 61 0 = ((Z : Nat) : Int)) (k : Nat × Int × Nat) (hk : k.1 ≤ k.2.2 ∧ k.2.2 ≤ Z) (hk4 : 0 ≤ k.2.1 ∧ k.2.1 ≤ 4) (hd : dgt f k) (hR : isR M k) (c : Nat) (hc : c < 5) (h8 : M.1 61 8 = ((c : Nat) : Int)) (lo hi : Int) (hlo : 0 ≤ lo ∧ lo ≤ 600) (hhi : -1 ≤ hi ∧ hi ≤ 600) (hok : ¬ numO f k lo hi) : en_Ct 4 0 57 [.inr (.inr (1, 3, 61)), .inl lo, .inl hi] M (fun r M' => r = some (.inl 0) ∧ M' = M) := by
  have hZ := hT.2.1
  obtain ⟨h2, h4, h3⟩ := hR
  have hok2 : k.2.1 = 2 → lo ≤ vl f k → vl f k ≤ hi → False := fun z1 z2 z3 => hok ⟨z1, z2, z3⟩
  refine ct_57 rfl ?_
  refine aw_57_0 ?_
  refine br_ne (a := M.1 61 4) (b := 2) (by omega) (by omega) (fun q1 => ?_) (fun q1 => ?_)
  · refine aw_57_20 ?_
    exact ⟨Or.inl rfl, rfl, rfl⟩
  · refine br_lt (a := M.1 61 8) (b := ((5 : Nat) : Int)) (by omega) (by omega) (fun q2 => ?_) (fun q2 => ?_)
    · refine aw_57_22 ?_
      have vb := vl_b hk.1 hd (by omega)
      have hv : (k.2.2 - k.1 ≤ 3 ∧ (if k.2.2 - k.1 ≤ 3 then vl f k else -1) = vl f k) ∨ (¬ k.2.2 - k.1 ≤ 3 ∧ (if k.2.2 - k.1 ≤ 3 then vl f k else -1) = -1 ∧ vl f k = 10000) := by
        by_cases z : k.2.2 - k.1 ≤ 3
        · rw [if_pos z]; exact Or.inl ⟨z, rfl⟩
        · rw [if_neg z]; exact Or.inr ⟨z, rfl, by unfold vl fg; rw [if_neg z]⟩
      refine ⟨1, 0, by first | decide | omega, by first | decide | omega, en_Ct_eq (R_value f Z M hT k hk hd ⟨h2, h4, h3⟩ (by omega)) ?_⟩
      refine br_eq (a := if k.2.2 - k.1 ≤ 3 then vl f k else -1) (b := (-1)) (by omega) (by omega) (fun q3 => ?_) (fun q3 => ?_)
      · refine aw_57_41 ?_
        exact ⟨Or.inl rfl, rfl, rfl⟩
      · by_cases c4 : lo ≤ (if k.2.2 - k.1 ≤ 3 then vl f k else -1) ∧ (if k.2.2 - k.1 ≤ 3 then vl f k else -1) ≤ hi
        · refine ⟨1, 0, by first | decide | omega, by first | decide | omega, en_Ct_t (R_within (if k.2.2 - k.1 ≤ 3 then vl f k else -1) lo hi (by omega) (by omega) (by omega) _) c4 ?_⟩
          refine br_ne_y (by decide) (by decide) (by decide) ?_
          exact absurd (hok2 (by omega) (by omega) (by omega)) id
        · refine ⟨1, 0, by first | decide | omega, by first | decide | omega, en_Ct_f (R_within (if k.2.2 - k.1 ≤ 3 then vl f k else -1) lo hi (by omega) (by omega) (by omega) _) c4 ?_⟩
          refine br_ne_n (by decide) (by decide) (by decide) ?_
          refine aw_57_41 ?_
          exact ⟨Or.inl rfl, rfl, rfl⟩
    · refine aw_57_20 ?_
      exact ⟨Or.inl rfl, rfl, rfl⟩
