/-! the reference's tokens -/
def fr84 (M K : Mm) : Prop := K.2 = M.2 ∧ (∀ a, a ≠ 84 → K.1 a = M.1 a) ∧ ∀ i, i ≠ 26 → i ≠ 27 → i ≠ 28 → i ≠ 29 → K.1 84 i = M.1 84 i
theorem fr84_rfl {M : Mm} : fr84 M M := ⟨rfl, fun _ _ => rfl, fun _ _ _ _ _ => rfl⟩
theorem w84_s {K : Mm} {s : Nat} {v : Int} : (en_wI K 84 s v).1 84 s = v := by
  show (if s = s then v else _) = _
  rw [if_pos rfl]
theorem w84_n {K : Mm} {s i : Nat} {v : Int} (h : i ≠ s) : (en_wI K 84 s v).1 84 i = K.1 84 i := by
  show (if i = s then v else K.1 84 i) = _
  rw [if_neg h]
theorem fr84_w {M K : Mm} {s : Nat} {v : Int} (h : fr84 M K) (hs : s = 26 ∨ s = 27 ∨ s = 28 ∨ s = 29) : fr84 M (en_wI K 84 s v) := ⟨h.1, fun a ha => by rw [wI_ne ha]; exact h.2.1 a ha, fun i z1 z2 z3 z4 => by
  rw [w84_n (by omega)]
  exact h.2.2 i z1 z2 z3 z4⟩
def isL (M : Mm) (f : Nat → Int) (k : Nat × Int × Nat) : Prop := M.1 84 28 = ((k.1 : Nat) : Int) ∧ M.1 84 27 = k.2.1 ∧ M.1 84 26 = ((k.2.2 : Nat) : Int) ∧ M.1 84 29 = if k.2.1 = 2 then vl f k else 0
theorem srtO_1 {x : Int} : srtO x = 1 ↔ 97 ≤ x ∧ x ≤ 122 := by
  unfold srtO
  (repeat' split) <;> omega
theorem srtO_2i {x : Int} : srtO x = 2 ↔ 48 ≤ x ∧ x ≤ 57 := by
  unfold srtO
  (repeat' split) <;> omega
theorem fg_s {f : Nat → Int} {s n : Nat} (h : n < 3) : fg f s (n + 1) = fg f s n * 10 + f (s + n) - 48 := by
  unfold fg
  rw [if_pos (by omega), if_pos (by omega), nv]
theorem fg_e {f : Nat → Int} {s n : Nat} (h : ¬ n < 3) : fg f s (n + 1) = 10000 := by
  unfold fg
  rw [if_neg (by omega)]
theorem R_isLet (x : Int) (h0 : 0 ≤ x ∧ x ≤ 255) (M : Mm) : en_Ct 1 0 173 [.inl x] M (fun r M' => r = some (.inl (if 97 ≤ x ∧ x ≤ 122 then 1 else 0)) ∧ M' = M) := by
  refine ct_173 rfl ?_
  refine aw_173_0 ?_
  refine br_lt (a := x) (b := 97) (by omega) (by omega) (fun q1 => ?_) (fun q1 => ?_)
  · refine aw_173_16 ?_
    refine aw_173_17 ?_
    exact ⟨Or.inl rfl, by rw [if_neg (by omega)], rfl⟩
  · refine br_gt (a := x) (b := 122) (by omega) (by omega) (fun q2 => ?_) (fun q2 => ?_)
    · refine aw_173_16 ?_
      refine aw_173_17 ?_
      exact ⟨Or.inl rfl, by rw [if_neg (by omega)], rfl⟩
    · refine aw_173_17 ?_
      exact ⟨Or.inr rfl, by rw [if_pos (by omega)], rfl⟩
theorem R_isDig (x : Int) (h0 : 0 ≤ x ∧ x ≤ 255) (M : Mm) : en_Ct 1 0 174 [.inl x] M (fun r M' => r = some (.inl (if 48 ≤ x ∧ x ≤ 57 then 1 else 0)) ∧ M' = M) := by
  refine ct_174 rfl ?_
  refine aw_174_0 ?_
  refine br_lt (a := x) (b := 48) (by omega) (by omega) (fun q1 => ?_) (fun q1 => ?_)
  · refine aw_174_16 ?_
    refine aw_174_17 ?_
    exact ⟨Or.inl rfl, by rw [if_neg (by omega)], rfl⟩
  · refine br_gt (a := x) (b := 57) (by omega) (by omega) (fun q2 => ?_) (fun q2 => ?_)
    · refine aw_174_16 ?_
      refine aw_174_17 ?_
      exact ⟨Or.inl rfl, by rw [if_neg (by omega)], rfl⟩
    · refine aw_174_17 ?_
      exact ⟨Or.inr rfl, by rw [if_pos (by omega)], rfl⟩
theorem L_lk1 {post : Option AV → Mm → Prop} (f : Nat → Int) (Z : Nat) (M : Mm) (hT : tpO M 99 f Z) (hz : M.1 84 7 = ((Z : Nat) : Int)) (S : Nat) (hx : ∀ K : Mm, fr84 M K → K.1 84 26 = ((S : Nat) : Int) → en_AW 3 0 175 post 38 [some (.inr (.inr (1, 6, 84)))] [] K 0) : ∀ (n : Nat) (i : Nat) (K : Mm), (i + n = Z) → (fr84 M K) → (K.1 84 26 = ((i : Nat) : Int)) → (skp f n i = S) → en_AW 3 0 175 post 0 [some (.inr (.inr (1, 6, 84)))] [] K 0 := by
  intro n
  induction n with
  | zero =>
    intro i K hi hF h2 hS
    have kz : K.1 84 7 = ((Z : Nat) : Int) := by rw [hF.2.2 7 (by decide) (by decide) (by decide) (by decide)]; exact hz
    have k99 : K.1 99 = f := by rw [hF.2.1 99 (by decide)]; exact hT.1
    have hZ := hT.2.1
    refine aw_175_0 ?_
    refine br_ge_y (a := K.1 84 26) (b := K.1 84 7) (by omega) (by omega) (by omega) ?_
    exact hx K hF (by rw [h2, ← hS]; rfl)
  | succ n ih =>
    intro i K hi hF h2 hS
    have kz : K.1 84 7 = ((Z : Nat) : Int) := by rw [hF.2.2 7 (by decide) (by decide) (by decide) (by decide)]; exact hz
    have k99 : K.1 99 = f := by rw [hF.2.1 99 (by decide)]; exact hT.1
    have hZ := hT.2.1
    have hfi := hT.2.2 i (by omega)
    have e26 : (K.1 84 26).toNat = i := by omega
    have kf : K.1 99 (K.1 84 26).toNat = f i := by rw [k99, e26]
    refine aw_175_0 ?_
    refine br_ge_n (a := K.1 84 26) (b := K.1 84 7) (by omega) (by omega) (by omega) ?_
    refine ⟨(K.1 84 26).toNat, it_nn (x := K.1 84 26) (by omega), (show (K.1 84 26).toNat < 250 by omega), ?_⟩
    refine br_ne (a := K.1 99 ((K.1 84 26).toNat)) (b := 32) (by omega) (by omega) (fun q2 => ?_) (fun q2 => ?_)
    · exact hx K hF (by rw [h2, ← hS, skp, if_neg (by omega)])
    · exact ih (i + 1) (en_wI K 84 26 (K.1 84 26 + 1)) (by omega) (fr84_w hF (by decide)) (by rw [w84_s]; omega) (by rw [skp, if_pos (by omega)] at hS; exact hS)
theorem L_lk2 {post : Option AV → Mm → Prop} (f : Nat → Int) (Z : Nat) (M : Mm) (hT : tpO M 99 f Z) (hz : M.1 84 7 = ((Z : Nat) : Int)) (S B : Nat) (hq : ∀ K : Mm, fr84 M K → isL K f (S, 1, B) → post none K) : ∀ (n : Nat) (i : Nat) (K : Mm), (i + n = Z) → (fr84 M K) → (K.1 84 28 = ((S : Nat) : Int)) → (K.1 84 27 = 1) → (K.1 84 26 = ((i : Nat) : Int)) → (K.1 84 29 = 0) → (ext f 1 n i = B) → en_AW 3 0 175 post 90 [some (.inr (.inr (1, 6, 84)))] [] K 0 := by
  intro n
  induction n with
  | zero =>
    intro i K hi hF h8 h7 h6 h9 hB
    have kz : K.1 84 7 = ((Z : Nat) : Int) := by rw [hF.2.2 7 (by decide) (by decide) (by decide) (by decide)]; exact hz
    have k99 : K.1 99 = f := by rw [hF.2.1 99 (by decide)]; exact hT.1
    have hZ := hT.2.1
    refine aw_175_90 ?_
    refine br_ge_y (a := K.1 84 26) (b := K.1 84 7) (by omega) (by omega) (by omega) ?_
    refine aw_175_264 ?_
    exact hq K hF ⟨h8, h7, by rw [h6, ← hB]; rfl, by rw [h9, if_neg (by show ¬ (1 : Int) = 2; decide)]⟩
  | succ n ih =>
    intro i K hi hF h8 h7 h6 h9 hB
    have kz : K.1 84 7 = ((Z : Nat) : Int) := by rw [hF.2.2 7 (by decide) (by decide) (by decide) (by decide)]; exact hz
    have k99 : K.1 99 = f := by rw [hF.2.1 99 (by decide)]; exact hT.1
    have hZ := hT.2.1
    have hfi := hT.2.2 i (by omega)
    have e26 : (K.1 84 26).toNat = i := by omega
    have kf : K.1 99 (K.1 84 26).toNat = f i := by rw [k99, e26]
    refine aw_175_90 ?_
    refine br_ge_n (a := K.1 84 26) (b := K.1 84 7) (by omega) (by omega) (by omega) ?_
    refine ⟨(K.1 84 26).toNat, it_nn (x := K.1 84 26) (by omega), (show (K.1 84 26).toNat < 250 by omega), ?_⟩
    by_cases c2 : 97 ≤ (K.1 99 ((K.1 84 26).toNat)) ∧ (K.1 99 ((K.1 84 26).toNat)) ≤ 122
    · refine ⟨1, 0, by first | decide | omega, by first | decide | omega, en_Ct_t (R_isLet (K.1 99 ((K.1 84 26).toNat)) (by omega) K) c2 ?_⟩
      refine br_eq_n (by decide) (by decide) (by decide) ?_
      exact ih (i + 1) (en_wI K 84 26 (K.1 84 26 + 1)) (by omega) (fr84_w hF (by decide)) (by rw [w84_n (by decide)]; exact h8) (by rw [w84_n (by decide)]; exact h7) (by rw [w84_s]; omega) (by rw [w84_n (by decide)]; exact h9) (by rw [ext, if_pos (srtO_1.mpr (by omega))] at hB; exact hB)
    · refine ⟨1, 0, by first | decide | omega, by first | decide | omega, en_Ct_f (R_isLet (K.1 99 ((K.1 84 26).toNat)) (by omega) K) c2 ?_⟩
      refine br_eq_y (by decide) (by decide) (by decide) ?_
      refine aw_175_264 ?_
      exact hq K hF ⟨h8, h7, by rw [h6, ← hB, ext, if_neg (fun z => by have := srtO_1.mp z; omega)], by rw [h9, if_neg (by show ¬ (1 : Int) = 2; decide)]⟩
theorem L_lk3 {post : Option AV → Mm → Prop} (f : Nat → Int) (Z : Nat) (M : Mm) (hT : tpO M 99 f Z) (hz : M.1 84 7 = ((Z : Nat) : Int)) (S B : Nat) (hdS : ∀ i, S ≤ i → i < B → 48 ≤ f i ∧ f i ≤ 57) (hq : ∀ K : Mm, fr84 M K → isL K f (S, 2, B) → post none K) : ∀ (n : Nat) (i : Nat) (K : Mm), (i + n = Z) → (fr84 M K) → (K.1 84 28 = ((S : Nat) : Int)) → (K.1 84 27 = 2) → (K.1 84 26 = ((i : Nat) : Int)) → (K.1 84 29 = fg f S (i - S)) → (S ≤ i) → (i ≤ B) → (ext f 2 n i = B) → en_AW 3 0 175 post 149 [some (.inr (.inr (1, 6, 84)))] [] K 0 := by
  intro n
  induction n with
  | zero =>
    intro i K hi hF h8 h7 h6 h9 hSi hiB hB
    have kz : K.1 84 7 = ((Z : Nat) : Int) := by rw [hF.2.2 7 (by decide) (by decide) (by decide) (by decide)]; exact hz
    have k99 : K.1 99 = f := by rw [hF.2.1 99 (by decide)]; exact hT.1
    have hZ := hT.2.1
    refine aw_175_149 ?_
    refine br_ge_y (a := K.1 84 26) (b := K.1 84 7) (by omega) (by omega) (by omega) ?_
    refine aw_175_264 ?_
    have hB : i = B := hB
    subst hB
    exact hq K hF ⟨h8, h7, h6, by rw [h9, if_pos rfl]; rfl⟩
  | succ n ih =>
    intro i K hi hF h8 h7 h6 h9 hSi hiB hB
    have kz : K.1 84 7 = ((Z : Nat) : Int) := by rw [hF.2.2 7 (by decide) (by decide) (by decide) (by decide)]; exact hz
    have k99 : K.1 99 = f := by rw [hF.2.1 99 (by decide)]; exact hT.1
    have hZ := hT.2.1
    have hfi := hT.2.2 i (by omega)
    have e26 : (K.1 84 26).toNat = i := by omega
    have kf : K.1 99 (K.1 84 26).toNat = f i := by rw [k99, e26]
    have hfg : 0 ≤ fg f S (i - S) ∧ fg f S (i - S) ≤ 10000 := by
      unfold fg
      split
      · have := nv_3 hdS (n := i - S) (by omega) (by assumption)
        omega
      · omega
    refine aw_175_149 ?_
    refine br_ge_n (a := K.1 84 26) (b := K.1 84 7) (by omega) (by omega) (by omega) ?_
    refine ⟨(K.1 84 26).toNat, it_nn (x := K.1 84 26) (by omega), (show (K.1 84 26).toNat < 250 by omega), ?_⟩
    by_cases c2 : 48 ≤ (K.1 99 ((K.1 84 26).toNat)) ∧ (K.1 99 ((K.1 84 26).toNat)) ≤ 57
    · refine ⟨1, 0, by first | decide | omega, by first | decide | omega, en_Ct_t (R_isDig (K.1 99 ((K.1 84 26).toNat)) (by omega) K) c2 ?_⟩
      refine br_eq_n (by decide) (by decide) (by decide) ?_
      refine br_ge (a := (K.1 84 26) - (K.1 84 28)) (b := 3) (by omega) (by omega) (fun q4 => ?_) (fun q4 => ?_)
      · refine aw_175_212 ?_
        refine aw_175_215 ?_
        exact ih (i + 1) (en_wI (en_wI K 84 29 (10000)) 84 26 (K.1 84 26 + 1)) (by omega) (fr84_w (fr84_w hF (by decide)) (by decide)) (by rw [w84_n (by decide), w84_n (by decide)]; exact h8) (by rw [w84_n (by decide), w84_n (by decide)]; exact h7) (by rw [w84_s]; omega) (by rw [w84_n (by decide), w84_s, show i + 1 - S = (i - S) + 1 by omega, fg_e (by omega)]) (by omega) (by have z := ext_b (f := f) (t := 2) n (i + 1); rw [ext, if_pos (srtO_2i.mpr (by omega))] at hB; omega) (by rw [ext, if_pos (srtO_2i.mpr (by omega))] at hB; exact hB)
      · refine ⟨(K.1 84 26).toNat, it_nn (x := K.1 84 26) (by omega), (show (K.1 84 26).toNat < 250 by omega), ?_⟩
        refine aw_175_215 ?_
        exact ih (i + 1) (en_wI (en_wI K 84 29 ((((K.1 84 29) * 10) + (K.1 99 ((K.1 84 26).toNat))) - 48)) 84 26 (K.1 84 26 + 1)) (by omega) (fr84_w (fr84_w hF (by decide)) (by decide)) (by rw [w84_n (by decide), w84_n (by decide)]; exact h8) (by rw [w84_n (by decide), w84_n (by decide)]; exact h7) (by rw [w84_s]; omega) (by rw [w84_n (by decide), w84_s, show i + 1 - S = (i - S) + 1 by omega, fg_s (by omega), show S + (i - S) = i by omega, kf, h9]) (by omega) (by have z := ext_b (f := f) (t := 2) n (i + 1); rw [ext, if_pos (srtO_2i.mpr (by omega))] at hB; omega) (by rw [ext, if_pos (srtO_2i.mpr (by omega))] at hB; exact hB)
    · refine ⟨1, 0, by first | decide | omega, by first | decide | omega, en_Ct_f (R_isDig (K.1 99 ((K.1 84 26).toNat)) (by omega) K) c2 ?_⟩
      refine br_eq_y (by decide) (by decide) (by decide) ?_
      refine aw_175_264 ?_
      have hB : i = B := by rw [← hB, ext, if_neg (fun z => by have := srtO_2i.mp z; omega)]
      subst hB
      exact hq K hF ⟨h8, h7, h6, by rw [h9, if_pos rfl]; rfl⟩
theorem R_look (f : Nat → Int) (Z : Nat) (M : Mm) (hT : tpO M 99 f Z) (hz : M.1 84 7 = ((Z : Nat) : Int)) (b : Nat) (hb : b ≤ Z) (hb3 : M.1 84 26 = ((b : Nat) : Int)) : en_Ct 3 0 175 [.inr (.inr (1, 6, 84))] M (fun r M' => r = none ∧ fr84 M M' ∧ isL M' f (tok f Z b)) := by
  refine ct_175 rfl ?_
  refine L_lk1 f Z M hT hz (tkS f Z b) (fun K hF hK2 => ?_) (Z - b) b M (by omega) fr84_rfl hb3 rfl
  have hSb := tkS_b (f := f) hb
  have hZ := hT.2.1
  have kz : K.1 84 7 = ((Z : Nat) : Int) := by rw [hF.2.2 7 (by decide) (by decide) (by decide) (by decide)]; exact hz
  have k99 : K.1 99 = f := by rw [hF.2.1 99 (by decide)]; exact hT.1
  have kz2 : (en_wI (en_wI K 84 28 (K.1 84 26)) 84 29 0).1 84 7 = ((Z : Nat) : Int) := by rw [w84_n (by decide), w84_n (by decide)]; exact kz
  have k26 : (en_wI (en_wI K 84 28 (K.1 84 26)) 84 29 0).1 84 26 = ((tkS f Z b : Nat) : Int) := by rw [w84_n (by decide), w84_n (by decide)]; exact hK2
  have e26 : ((en_wI (en_wI K 84 28 (K.1 84 26)) 84 29 0).1 84 26).toNat = tkS f Z b := by omega
  have kf : (en_wI (en_wI K 84 28 (K.1 84 26)) 84 29 0).1 99 ((en_wI (en_wI K 84 28 (K.1 84 26)) 84 29 0).1 84 26).toNat = f (tkS f Z b) := by rw [e26, wI_ne (by decide), wI_ne (by decide), k99]
  refine aw_175_38 ?_
  refine br_ne (a := (en_wI (en_wI K 84 28 (K.1 84 26)) 84 29 0).1 84 26) (b := (en_wI (en_wI K 84 28 (K.1 84 26)) 84 29 0).1 84 7) (by omega) (by omega) (fun q1 => ?_) (fun q1 => ?_)
  · refine aw_175_70 ?_
    have hfi := hT.2.2 (tkS f Z b) (by omega)
    have htok : tok f Z b = (tkS f Z b, srtO (f (tkS f Z b)), if srtO (f (tkS f Z b)) = 1 ∨ srtO (f (tkS f Z b)) = 2 then ext f (srtO (f (tkS f Z b))) (Z - (tkS f Z b + 1)) (tkS f Z b + 1) else tkS f Z b + 1) := by
      unfold tok
      rw [if_neg (by omega)]
    refine ⟨((en_wI (en_wI K 84 28 (K.1 84 26)) 84 29 0).1 84 26).toNat, it_nn (x := (en_wI (en_wI K 84 28 (K.1 84 26)) 84 29 0).1 84 26) (by omega), (show ((en_wI (en_wI K 84 28 (K.1 84 26)) 84 29 0).1 84 26).toNat < 250 by omega), ?_⟩
    by_cases c2 : 97 ≤ ((en_wI (en_wI K 84 28 (K.1 84 26)) 84 29 0).1 99 (((en_wI (en_wI K 84 28 (K.1 84 26)) 84 29 0).1 84 26).toNat)) ∧ ((en_wI (en_wI K 84 28 (K.1 84 26)) 84 29 0).1 99 (((en_wI (en_wI K 84 28 (K.1 84 26)) 84 29 0).1 84 26).toNat)) ≤ 122
    · refine ⟨1, 0, by first | decide | omega, by first | decide | omega, en_Ct_t (R_isLet ((en_wI (en_wI K 84 28 (K.1 84 26)) 84 29 0).1 99 (((en_wI (en_wI K 84 28 (K.1 84 26)) 84 29 0).1 84 26).toNat)) (by omega) (en_wI (en_wI K 84 28 (K.1 84 26)) 84 29 0)) c2 ?_⟩
      refine br_eq_n (by decide) (by decide) (by decide) ?_
      have hs : srtO (f (tkS f Z b)) = 1 := srtO_1.mpr (by omega)
      have hB1 : ext f 1 (Z - (tkS f Z b + 1)) (tkS f Z b + 1) = ext f 1 (Z - tkS f Z b) (tkS f Z b) := by
        rw [show Z - tkS f Z b = Z - (tkS f Z b + 1) + 1 by omega, ext, if_pos hs]
      exact L_lk2 f Z M hT hz (tkS f Z b) (ext f 1 (Z - (tkS f Z b + 1)) (tkS f Z b + 1)) (fun K2 g1 g2 => ⟨rfl, g1, by rw [htok, hs, if_pos (Or.inl rfl)]; exact g2⟩) (Z - tkS f Z b) (tkS f Z b) (en_wI (en_wI (en_wI K 84 28 (K.1 84 26)) 84 29 0) 84 27 1) (by omega) (fr84_w (fr84_w (fr84_w hF (by decide)) (by decide)) (by decide)) (by rw [w84_n (by decide), w84_n (by decide), w84_s]; exact hK2) (by rw [w84_s]) (by rw [w84_n (by decide)]; exact k26) (by rw [w84_n (by decide), w84_s]) hB1.symm
    · refine ⟨1, 0, by first | decide | omega, by first | decide | omega, en_Ct_f (R_isLet ((en_wI (en_wI K 84 28 (K.1 84 26)) 84 29 0).1 99 (((en_wI (en_wI K 84 28 (K.1 84 26)) 84 29 0).1 84 26).toNat)) (by omega) (en_wI (en_wI K 84 28 (K.1 84 26)) 84 29 0)) c2 ?_⟩
      refine br_eq_y (by decide) (by decide) (by decide) ?_
      refine aw_175_129 ?_
      refine ⟨((en_wI (en_wI K 84 28 (K.1 84 26)) 84 29 0).1 84 26).toNat, it_nn (x := (en_wI (en_wI K 84 28 (K.1 84 26)) 84 29 0).1 84 26) (by omega), (show ((en_wI (en_wI K 84 28 (K.1 84 26)) 84 29 0).1 84 26).toNat < 250 by omega), ?_⟩
      by_cases c5 : 48 ≤ ((en_wI (en_wI K 84 28 (K.1 84 26)) 84 29 0).1 99 (((en_wI (en_wI K 84 28 (K.1 84 26)) 84 29 0).1 84 26).toNat)) ∧ ((en_wI (en_wI K 84 28 (K.1 84 26)) 84 29 0).1 99 (((en_wI (en_wI K 84 28 (K.1 84 26)) 84 29 0).1 84 26).toNat)) ≤ 57
      · refine ⟨1, 0, by first | decide | omega, by first | decide | omega, en_Ct_t (R_isDig ((en_wI (en_wI K 84 28 (K.1 84 26)) 84 29 0).1 99 (((en_wI (en_wI K 84 28 (K.1 84 26)) 84 29 0).1 84 26).toNat)) (by omega) (en_wI (en_wI K 84 28 (K.1 84 26)) 84 29 0)) c5 ?_⟩
        refine br_eq_n (by decide) (by decide) (by decide) ?_
        have hs : srtO (f (tkS f Z b)) = 2 := srtO_2i.mpr (by omega)
        have hB1 : ext f 2 (Z - (tkS f Z b + 1)) (tkS f Z b + 1) = ext f 2 (Z - tkS f Z b) (tkS f Z b) := by
          rw [show Z - tkS f Z b = Z - (tkS f Z b + 1) + 1 by omega, ext, if_pos hs]
        have hdd := tok_d (f := f) (Z := Z) (b := b)
        rw [htok, hs, if_pos (Or.inr rfl)] at hdd
        have hbb := ext_b (f := f) (t := 2) (Z - (tkS f Z b + 1)) (tkS f Z b + 1)
        exact L_lk3 f Z M hT hz (tkS f Z b) (ext f 2 (Z - (tkS f Z b + 1)) (tkS f Z b + 1)) (hdd rfl) (fun K2 g1 g2 => ⟨rfl, g1, by rw [htok, hs, if_pos (Or.inr rfl)]; exact g2⟩) (Z - tkS f Z b) (tkS f Z b) (en_wI (en_wI (en_wI K 84 28 (K.1 84 26)) 84 29 0) 84 27 2) (by omega) (fr84_w (fr84_w (fr84_w hF (by decide)) (by decide)) (by decide)) (by rw [w84_n (by decide), w84_n (by decide), w84_s]; exact hK2) (by rw [w84_s]) (by rw [w84_n (by decide)]; exact k26) (by rw [w84_n (by decide), w84_s, Nat.sub_self]; rfl) (Nat.le_refl _) (by omega) hB1.symm
      · refine ⟨1, 0, by first | decide | omega, by first | decide | omega, en_Ct_f (R_isDig ((en_wI (en_wI K 84 28 (K.1 84 26)) 84 29 0).1 99 (((en_wI (en_wI K 84 28 (K.1 84 26)) 84 29 0).1 84 26).toNat)) (by omega) (en_wI (en_wI K 84 28 (K.1 84 26)) 84 29 0)) c5 ?_⟩
        refine br_eq_y (by decide) (by decide) (by decide) ?_
        refine aw_175_231 ?_
        refine ⟨((en_wI (en_wI K 84 28 (K.1 84 26)) 84 29 0).1 84 26).toNat, it_nn (x := (en_wI (en_wI K 84 28 (K.1 84 26)) 84 29 0).1 84 26) (by omega), (show ((en_wI (en_wI K 84 28 (K.1 84 26)) 84 29 0).1 84 26).toNat < 250 by omega), ?_⟩
        refine br_ne (a := (en_wI (en_wI K 84 28 (K.1 84 26)) 84 29 0).1 99 (((en_wI (en_wI K 84 28 (K.1 84 26)) 84 29 0).1 84 26).toNat)) (b := 59) (by omega) (by omega) (fun q8 => ?_) (fun q8 => ?_)
        · refine aw_175_250 ?_
          refine aw_175_251 ?_
          refine aw_175_264 ?_
          have hs : srtO (f (tkS f Z b)) = 4 := by unfold srtO; repeat first | rw [if_pos (by omega)] | rw [if_neg (by omega)]
          have e : tok f Z b = (tkS f Z b, 4, tkS f Z b + 1) := by rw [htok, hs, if_neg (by decide)]
          rw [e]
          exact ⟨rfl, fr84_w (fr84_w (fr84_w (fr84_w hF (by decide)) (by decide)) (by decide)) (by decide), by rw [w84_n (by decide), w84_n (by decide), w84_n (by decide), w84_s]; exact hK2, by rw [w84_n (by decide), w84_s], by rw [w84_s, w84_n (by decide), k26]; rfl, by rw [w84_n (by decide), w84_n (by decide), w84_s]; rfl⟩
        · refine aw_175_251 ?_
          refine aw_175_264 ?_
          have hs : srtO (f (tkS f Z b)) = 3 := by unfold srtO; repeat first | rw [if_pos (by omega)] | rw [if_neg (by omega)]
          have e : tok f Z b = (tkS f Z b, 3, tkS f Z b + 1) := by rw [htok, hs, if_neg (by decide)]
          rw [e]
          exact ⟨rfl, fr84_w (fr84_w (fr84_w (fr84_w hF (by decide)) (by decide)) (by decide)) (by decide), by rw [w84_n (by decide), w84_n (by decide), w84_n (by decide), w84_s]; exact hK2, by rw [w84_n (by decide), w84_s], by rw [w84_s, w84_n (by decide), k26]; rfl, by rw [w84_n (by decide), w84_n (by decide), w84_s]; rfl⟩
  · refine aw_175_264 ?_
    have e : tok f Z b = (Z, 0, Z) := by unfold tok; rw [if_pos (by omega)]
    rw [e]
    exact ⟨rfl, (fr84_w (fr84_w (fr84_w hF (by decide)) (by decide)) (by decide)), by rw [w84_n (by decide), w84_n (by decide), w84_s, hK2]; show _ = ((Z : Nat) : Int); omega, by rw [w84_s], by rw [w84_n (by decide), k26]; show _ = ((Z : Nat) : Int); omega, by rw [w84_n (by decide), w84_s]; rfl⟩
theorem L_nmM {post : Option AV → Mm → Prop} (f : Nat → Int) (Z : Nat) (M : Mm) (hT : tpO M 99 f Z) (k : Nat × Int × Nat) (hk : k.1 ≤ k.2.2 ∧ k.2.2 ≤ Z) (h2 : M.1 84 28 = ((k.1 : Nat) : Int)) (h4 : M.1 84 27 = k.2.1) (h3 : M.1 84 26 = ((k.2.2 : Nat) : Int)) (hk4 : 0 ≤ k.2.1 ∧ k.2.1 ≤ 4) (q : Nat) (hn : k.1 + en_ln q = k.2.2) (hq : ∀ b : Bool, mtc f k.1 q (en_ln q) 0 = b → post (some (.inl (if b = true then 1 else 0))) M) : ∀ (n : Nat) (i : Nat), (i + n = en_ln q) → (mtc f k.1 q (en_ln q) 0 = mtc f k.1 q n i) → en_AW 5 0 177 post 28 [some (.inr (.inr (1, 6, 84))), some (.inr (.inr (7, q, 0))), some (.inl ((i : Nat) : Int))] [] M 0 := by
  intro n
  induction n with
  | zero =>
    intro i hi hm
    have hZ := hT.2.1
    have kt : M.1 99 = f := hT.1
    have hln := ln_b q
    refine aw_177_28 ?_
    refine ⟨2, 0, by first | decide | omega, by first | decide | omega, en_Ct_eq (R_len q M) ?_⟩
    refine br_ge_y (a := ((i : Nat) : Int)) (b := ((en_ln q : Nat) : Int)) (by omega) (by omega) (by omega) ?_
    refine aw_177_63 ?_
    exact ⟨Or.inr rfl, hq true hm⟩
  | succ n ih =>
    intro i hi hm
    have hZ := hT.2.1
    have kt : M.1 99 = f := hT.1
    have hln := ln_b q
    have hfi := hT.2.2 (k.1 + i) (by omega)
    have bb := by_b (n := q) (i := i) (show i < en_ln q by omega)
    have ei : (M.1 84 28 + ((i : Nat) : Int)).toNat = k.1 + i := by omega
    have kf : M.1 99 (M.1 84 28 + ((i : Nat) : Int)).toNat = f (k.1 + i) := by rw [kt, ei]
    refine aw_177_28 ?_
    refine ⟨2, 0, by first | decide | omega, by first | decide | omega, en_Ct_eq (R_len q M) ?_⟩
    refine br_ge_n (a := ((i : Nat) : Int)) (b := ((en_ln q : Nat) : Int)) (by omega) (by omega) (by omega) ?_
    refine ⟨((M.1 84 28) + ((i : Nat) : Int)).toNat, it_nn (x := (M.1 84 28) + ((i : Nat) : Int)) (by omega), (show ((M.1 84 28) + ((i : Nat) : Int)).toNat < 250 by omega), ?_⟩
    refine ⟨4, 0, by first | decide | omega, by first | decide | omega, en_Ct_eq (R_charAt q i (by omega) M) ?_⟩
    refine br_eq (a := M.1 99 (((M.1 84 28) + ((i : Nat) : Int)).toNat)) (b := (en_by.getD q []).getD i 0) (by omega) (by omega) (fun q2 => ?_) (fun q2 => ?_)
    · refine aw_177_57 ?_
      exact ih (i + 1) (by omega) (by rw [hm, mtc, if_pos (by rw [← kf]; omega)])
    · exact ⟨Or.inl rfl, hq false (by rw [hm, mtc, if_neg (by rw [← kf]; omega)])⟩
theorem R_isTold (f : Nat → Int) (Z : Nat) (M : Mm) (hT : tpO M 99 f Z) (k : Nat × Int × Nat) (hk : k.1 ≤ k.2.2 ∧ k.2.2 ≤ Z) (h2 : M.1 84 28 = ((k.1 : Nat) : Int)) (h4 : M.1 84 27 = k.2.1) (h3 : M.1 84 26 = ((k.2.2 : Nat) : Int)) (hk4 : 0 ≤ k.2.1 ∧ k.2.1 ≤ 4) (q : Nat) : en_Ct 5 0 177 [.inr (.inr (1, 6, 84)), .inr (.inr (7, q, 0))] M (fun r M' => r = some (.inl (if nm f k q = true then 1 else 0)) ∧ M' = M) := by
  have hZ := hT.2.1
  have kt : M.1 99 = f := hT.1
  have hln := ln_b q
  refine ct_177 rfl ?_
  refine aw_177_0 ?_
  refine br_ne (a := M.1 84 27) (b := 1) (by omega) (by omega) (fun q1 => ?_) (fun q1 => ?_)
  · refine aw_177_24 ?_
    refine ⟨Or.inl rfl, ?_⟩
    have e : nm f k q = false := by unfold nm; rw [if_neg (by omega)]
    rw [e]
    exact ⟨rfl, rfl⟩
  · refine ⟨2, 0, by first | decide | omega, by first | decide | omega, en_Ct_eq (R_len q M) ?_⟩
    refine br_eq (a := (M.1 84 26) - (M.1 84 28)) (b := ((en_ln q : Nat) : Int)) (by omega) (by omega) (fun q2 => ?_) (fun q2 => ?_)
    · refine aw_177_26 ?_
      refine L_nmM f Z M hT k hk h2 h4 h3 hk4 q (by omega) (fun b hb => ?_) (en_ln q) 0 (Nat.zero_add _) rfl
      have e : nm f k q = b := by unfold nm; rw [if_pos (by omega)]; exact hb
      rw [e]
      exact ⟨rfl, rfl⟩
    · refine aw_177_24 ?_
      refine ⟨Or.inl rfl, ?_⟩
      have e : nm f k q = false := by unfold nm; rw [if_neg (by omega)]
      rw [e]
      exact ⟨rfl, rfl⟩
