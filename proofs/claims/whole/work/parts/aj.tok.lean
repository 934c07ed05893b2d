/-! tokens -/
def srtO (x : Int) : Int := if 97 ≤ x ∧ x ≤ 122 then 1 else if 48 ≤ x ∧ x ≤ 57 then 2 else if x = 59 then 3 else 4
theorem srtO_b (x : Int) : 1 ≤ srtO x ∧ srtO x ≤ 4 := by
  unfold srtO
  (repeat' split) <;> omega
def skp (f : Nat → Int) : Nat → Nat → Nat
  | 0, b => b
  | n + 1, b => if f b = 32 then skp f n (b + 1) else b
def ext (f : Nat → Int) (t : Int) : Nat → Nat → Nat
  | 0, b => b
  | n + 1, b => if srtO (f b) = t then ext f t n (b + 1) else b
theorem skp_b {f : Nat → Int} : ∀ n b, b ≤ skp f n b ∧ skp f n b ≤ b + n
  | 0, b => ⟨Nat.le_refl _, Nat.le_refl _⟩
  | n + 1, b => by
    have := skp_b (f := f) n (b + 1)
    unfold skp
    split <;> omega
theorem ext_b {f : Nat → Int} {t : Int} : ∀ n b, b ≤ ext f t n b ∧ ext f t n b ≤ b + n
  | 0, b => ⟨Nat.le_refl _, Nat.le_refl _⟩
  | n + 1, b => by
    have := ext_b (f := f) (t := t) n (b + 1)
    unfold ext
    split <;> omega
def tkS (f : Nat → Int) (Z b : Nat) : Nat := skp f (Z - b) b
def tok (f : Nat → Int) (Z b : Nat) : Nat × Int × Nat :=
  if tkS f Z b = Z then (Z, 0, Z) else (tkS f Z b, srtO (f (tkS f Z b)), if srtO (f (tkS f Z b)) = 1 ∨ srtO (f (tkS f Z b)) = 2 then ext f (srtO (f (tkS f Z b))) (Z - (tkS f Z b + 1)) (tkS f Z b + 1) else tkS f Z b + 1)
theorem tkS_b {f : Nat → Int} {Z b : Nat} (h : b ≤ Z) : b ≤ tkS f Z b ∧ tkS f Z b ≤ Z := by
  have := skp_b (f := f) (Z - b) b
  unfold tkS
  omega
theorem tok_b {f : Nat → Int} {Z b : Nat} (h : b ≤ Z) : b ≤ (tok f Z b).1 ∧ (tok f Z b).1 ≤ (tok f Z b).2.2 ∧ (tok f Z b).2.2 ≤ Z ∧ (0 ≤ (tok f Z b).2.1 ∧ (tok f Z b).2.1 ≤ 4) ∧ ((tok f Z b).2.1 ≠ 0 → (tok f Z b).1 < (tok f Z b).2.2) := by
  have h1 := tkS_b (f := f) h
  have h2 := srtO_b (f (tkS f Z b))
  have h3 := ext_b (f := f) (t := srtO (f (tkS f Z b))) (Z - (tkS f Z b + 1)) (tkS f Z b + 1)
  unfold tok
  split
  · dsimp only; omega
  · dsimp only; split <;> omega
theorem skp_c {f g : Nat → Int} {Z : Nat} (h : ∀ i, i < Z → f i = g i) : ∀ n b, b + n ≤ Z → skp f n b = skp g n b
  | 0, _, _ => rfl
  | n + 1, b, hb => by rw [skp, skp, h b (by omega), skp_c h n (b + 1) (by omega)]
theorem ext_c {f g : Nat → Int} {Z : Nat} (h : ∀ i, i < Z → f i = g i) {t : Int} : ∀ n b, b + n ≤ Z → ext f t n b = ext g t n b
  | 0, _, _ => rfl
  | n + 1, b, hb => by rw [ext, ext, h b (by omega), ext_c h n (b + 1) (by omega)]
theorem tok_c {f g : Nat → Int} {Z b : Nat} (h : ∀ i, i < Z → f i = g i) (hb : b ≤ Z) : tok f Z b = tok g Z b := by
  have e : tkS f Z b = tkS g Z b := skp_c h _ _ (by omega)
  have h1 := tkS_b (f := g) hb
  unfold tok
  rw [e]
  by_cases z : tkS g Z b = Z
  · rw [if_pos z, if_pos z]
  · rw [if_neg z, if_neg z, h _ (show tkS g Z b < Z by omega), ext_c h _ _ (by omega)]
def fr61 (M K : Mm) : Prop := K.2 = M.2 ∧ (∀ a, a ≠ 61 → K.1 a = M.1 a) ∧ ∀ i, i ≠ 2 → i ≠ 3 → i ≠ 4 → K.1 61 i = M.1 61 i
theorem fr61_rfl {M : Mm} : fr61 M M := ⟨rfl, fun _ _ => rfl, fun _ _ _ _ => rfl⟩
theorem fr61_w {M K : Mm} {s : Nat} {v : Int} (h : fr61 M K) (hs : s = 2 ∨ s = 3 ∨ s = 4) : fr61 M (en_wI K 61 s v) := ⟨h.1, fun a ha => by rw [wI_ne ha]; exact h.2.1 a ha, fun i z1 z2 z3 => by
  show (if i = s then v else K.1 61 i) = _
  rw [if_neg (by omega)]
  exact h.2.2 i z1 z2 z3⟩
theorem w61_s {K : Mm} {s : Nat} {v : Int} : (en_wI K 61 s v).1 61 s = v := by
  show (if s = s then v else _) = _
  rw [if_pos rfl]
theorem w61_n {K : Mm} {s i : Nat} {v : Int} (h : i ≠ s) : (en_wI K 61 s v).1 61 i = K.1 61 i := by
  show (if i = s then v else K.1 61 i) = _
  rw [if_neg h]
def isR (M : Mm) (k : Nat × Int × Nat) : Prop := M.1 61 2 = ((k.1 : Nat) : Int) ∧ M.1 61 4 = k.2.1 ∧ M.1 61 3 = ((k.2.2 : Nat) : Int)
def tpO (M : Mm) (a : Nat) (f : Nat → Int) (Z : Nat) : Prop := M.1 a = f ∧ Z ≤ 250 ∧ ∀ i, i < Z → 0 ≤ f i ∧ f i ≤ 255
theorem R_sortOf (x : Int) (h0 : 0 ≤ x) (h1 : x ≤ 255) (M : Mm) : en_Ct 2 0 48 [.inl x] M (fun r M' => r = some (.inl (srtO x)) ∧ M' = M) := by
  refine ct_48 rfl ?_
  refine aw_48_0 ?_
  by_cases c1 : 97 ≤ x ∧ x ≤ 122
  · refine ⟨1, 0, by first | decide | omega, by first | decide | omega, en_Ct_t (R_within x 97 122 (by omega) (by omega) (by omega) _) c1 ?_⟩
    refine br_eq_n (by decide) (by decide) (by decide) ?_
    refine ⟨congrArg (fun z => some (Sum.inl z)) (show (1 : Int) = srtO x from ?_), rfl⟩
    unfold srtO
    repeat first | rw [if_pos (by omega)] | rw [if_neg (by omega)]
  · refine ⟨1, 0, by first | decide | omega, by first | decide | omega, en_Ct_f (R_within x 97 122 (by omega) (by omega) (by omega) _) c1 ?_⟩
    refine br_eq_y (by decide) (by decide) (by decide) ?_
    refine aw_48_13 ?_
    by_cases c4 : 48 ≤ x ∧ x ≤ 57
    · refine ⟨1, 0, by first | decide | omega, by first | decide | omega, en_Ct_t (R_within x 48 57 (by omega) (by omega) (by omega) _) c4 ?_⟩
      refine br_eq_n (by decide) (by decide) (by decide) ?_
      refine ⟨congrArg (fun z => some (Sum.inl z)) (show (2 : Int) = srtO x from ?_), rfl⟩
      unfold srtO
      repeat first | rw [if_pos (by omega)] | rw [if_neg (by omega)]
    · refine ⟨1, 0, by first | decide | omega, by first | decide | omega, en_Ct_f (R_within x 48 57 (by omega) (by omega) (by omega) _) c4 ?_⟩
      refine br_eq_y (by decide) (by decide) (by decide) ?_
      refine aw_48_26 ?_
      refine br_ne (a := x) (b := 59) (by omega) (by omega) (fun q7 => ?_) (fun q7 => ?_)
      · refine aw_48_36 ?_
        refine aw_48_37 ?_
        refine ⟨congrArg (fun z => some (Sum.inl z)) (show (4 : Int) = srtO x from ?_), rfl⟩
        unfold srtO
        repeat first | rw [if_pos (by omega)] | rw [if_neg (by omega)]
      · refine aw_48_37 ?_
        refine ⟨congrArg (fun z => some (Sum.inl z)) (show (3 : Int) = srtO x from ?_), rfl⟩
        unfold srtO
        repeat first | rw [if_pos (by omega)] | rw [if_neg (by omega)]
theorem L_tk1 {post : Option AV → Mm → Prop} (f : Nat → Int) (Z : Nat) (M : Mm) (hT : tpO M 62 f Z) (hz : M.1 61 0 = ((Z : Nat) : Int)) (S : Nat) (hx : ∀ K : Mm, fr61 M K → K.1 61 2 = ((S : Nat) : Int) → en_AW 3 0 47 post 46 [some (.inr (.inr (1, 3, 61)))] [] K 0) : ∀ (n : Nat) (i : Nat) (K : Mm), (i + n = Z) → (fr61 M K) → (K.1 61 2 = ((i : Nat) : Int)) → (skp f n i = S) → en_AW 3 0 47 post 8 [some (.inr (.inr (1, 3, 61)))] [] K 0 := by
  intro n
  induction n with
  | zero =>
    intro i K hi hF h2 hS
    have kz : K.1 61 0 = ((Z : Nat) : Int) := by rw [hF.2.2 0 (by decide) (by decide) (by decide)]; exact hz
    have k62 : K.1 62 = f := by rw [hF.2.1 62 (by decide)]; exact hT.1
    have hZ := hT.2.1
    refine aw_47_8 ?_
    refine br_ge_y (a := K.1 61 2) (b := K.1 61 0) (by omega) (by omega) (by omega) ?_
    exact hx K hF (by rw [h2, ← hS]; rfl)
  | succ n ih =>
    intro i K hi hF h2 hS
    have kz : K.1 61 0 = ((Z : Nat) : Int) := by rw [hF.2.2 0 (by decide) (by decide) (by decide)]; exact hz
    have k62 : K.1 62 = f := by rw [hF.2.1 62 (by decide)]; exact hT.1
    have hZ := hT.2.1
    have hfi := hT.2.2 i (by omega)
    have e2 : (K.1 61 2).toNat = i := by omega
    have kf : K.1 62 (K.1 61 2).toNat = f i := by rw [k62, e2]
    refine aw_47_8 ?_
    refine br_ge_n (a := K.1 61 2) (b := K.1 61 0) (by omega) (by omega) (by omega) ?_
    refine ⟨(K.1 61 2).toNat, it_nn (x := K.1 61 2) (by omega), (show (K.1 61 2).toNat < 250 by omega), ?_⟩
    refine br_ne (a := K.1 62 ((K.1 61 2).toNat)) (b := 32) (by omega) (by omega) (fun q2 => ?_) (fun q2 => ?_)
    · exact hx K hF (by rw [h2, ← hS, skp, if_neg (by omega)])
    · exact ih (i + 1) (en_wI K 61 2 (K.1 61 2 + 1)) (by omega) (fr61_w hF (by decide)) (by rw [w61_s]; omega) (by rw [skp, if_pos (by omega)] at hS; exact hS)
theorem L_tk2 {post : Option AV → Mm → Prop} (f : Nat → Int) (Z : Nat) (M : Mm) (hT : tpO M 62 f Z) (hz : M.1 61 0 = ((Z : Nat) : Int)) (t : Int) (ht : 1 ≤ t ∧ t ≤ 4) (S B : Nat) (hq : ∀ K : Mm, fr61 M K → isR K (S, t, B) → post none K) : ∀ (n : Nat) (i : Nat) (K : Mm), (i + n = Z) → (fr61 M K) → (K.1 61 2 = ((S : Nat) : Int)) → (K.1 61 4 = t) → (K.1 61 3 = ((i : Nat) : Int)) → (ext f t n i = B) → en_AW 3 0 47 post 113 [some (.inr (.inr (1, 3, 61)))] [] K 0 := by
  intro n
  induction n with
  | zero =>
    intro i K hi hF h2 h4 h3 hB
    have kz : K.1 61 0 = ((Z : Nat) : Int) := by rw [hF.2.2 0 (by decide) (by decide) (by decide)]; exact hz
    have k62 : K.1 62 = f := by rw [hF.2.1 62 (by decide)]; exact hT.1
    have hZ := hT.2.1
    refine aw_47_113 ?_
    refine br_ge_y (a := K.1 61 3) (b := K.1 61 0) (by omega) (by omega) (by omega) ?_
    refine aw_47_156 ?_
    exact hq K hF ⟨h2, h4, by rw [h3, ← hB]; rfl⟩
  | succ n ih =>
    intro i K hi hF h2 h4 h3 hB
    have kz : K.1 61 0 = ((Z : Nat) : Int) := by rw [hF.2.2 0 (by decide) (by decide) (by decide)]; exact hz
    have k62 : K.1 62 = f := by rw [hF.2.1 62 (by decide)]; exact hT.1
    have hZ := hT.2.1
    have hfi := hT.2.2 i (by omega)
    have e2 : (K.1 61 3).toNat = i := by omega
    have kf : K.1 62 (K.1 61 3).toNat = f i := by rw [k62, e2]
    have sb := srtO_b (K.1 62 (K.1 61 3).toNat)
    refine aw_47_113 ?_
    refine br_ge_n (a := K.1 61 3) (b := K.1 61 0) (by omega) (by omega) (by omega) ?_
    refine ⟨(K.1 61 3).toNat, it_nn (x := K.1 61 3) (by omega), (show (K.1 61 3).toNat < 250 by omega), ?_⟩
    refine ⟨2, 0, by first | decide | omega, by first | decide | omega, en_Ct_eq (R_sortOf (K.1 62 ((K.1 61 3).toNat)) (by omega) (by omega) K) ?_⟩
    refine br_ne (a := srtO (K.1 62 ((K.1 61 3).toNat))) (b := K.1 61 4) (by omega) (by omega) (fun q2 => ?_) (fun q2 => ?_)
    · refine aw_47_156 ?_
      exact hq K hF ⟨h2, h4, by rw [h3, ← hB, ext, if_neg (by rw [← kf]; omega)]⟩
    · exact ih (i + 1) (en_wI K 61 3 (K.1 61 3 + 1)) (by omega) (fr61_w hF (by decide)) (by rw [w61_n (by decide)]; exact h2) (by rw [w61_n (by decide)]; exact h4) (by rw [w61_s]; omega) (by rw [ext, if_pos (by rw [← kf]; omega)] at hB; exact hB)
