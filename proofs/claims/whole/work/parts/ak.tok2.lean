theorem R_tstep (f : Nat → Int) (Z : Nat) (M : Mm) (hT : tpO M 62 f Z) (hz : M.1 61 0 = ((Z : Nat) : Int)) (b : Nat) (hb : b ≤ Z) (hb3 : M.1 61 3 = ((b : Nat) : Int)) : en_Ct 3 0 47 [.inr (.inr (1, 3, 61))] M (fun r M' => r = none ∧ fr61 M M' ∧ isR M' (tok f Z b)) := by
  refine ct_47 rfl ?_
  refine aw_47_0 ?_
  refine L_tk1 f Z M hT hz (tkS f Z b) (fun K hF hK2 => ?_) (Z - b) b (en_wI M 61 2 (M.1 61 3)) (by omega) (fr61_w fr61_rfl (by decide)) (by rw [w61_s]; exact hb3) rfl
  have hSb := tkS_b (f := f) hb
  have hZ := hT.2.1
  have kz : K.1 61 0 = ((Z : Nat) : Int) := by rw [hF.2.2 0 (by decide) (by decide) (by decide)]; exact hz
  have k62 : K.1 62 = f := by rw [hF.2.1 62 (by decide)]; exact hT.1
  refine aw_47_46 ?_
  refine br_lt (a := K.1 61 2) (b := K.1 61 0) (by omega) (by omega) (fun q1 => ?_) (fun q1 => ?_)
  · refine aw_47_71 ?_
    have e2 : (K.1 61 2).toNat = tkS f Z b := by omega
    have kf : K.1 62 (K.1 61 2).toNat = f (tkS f Z b) := by rw [k62, e2]
    have hfi := hT.2.2 (tkS f Z b) (by omega)
    have sb := srtO_b (K.1 62 (K.1 61 2).toNat)
    have htok : tok f Z b = (tkS f Z b, srtO (f (tkS f Z b)), if srtO (f (tkS f Z b)) = 1 ∨ srtO (f (tkS f Z b)) = 2 then ext f (srtO (f (tkS f Z b))) (Z - (tkS f Z b + 1)) (tkS f Z b + 1) else tkS f Z b + 1) := by
      unfold tok
      rw [if_neg (by omega)]
    refine ⟨(K.1 61 2).toNat, it_nn (x := K.1 61 2) (by omega), (show (K.1 61 2).toNat < 250 by omega), ?_⟩
    refine ⟨2, 0, by first | decide | omega, by first | decide | omega, en_Ct_eq (R_sortOf (K.1 62 ((K.1 61 2).toNat)) (by omega) (by omega) K) ?_⟩
    have e4 : (en_wI (en_wI K 61 4 (srtO (K.1 62 ((K.1 61 2).toNat)))) 61 3 (((en_wI K 61 4 (srtO (K.1 62 ((K.1 61 2).toNat)))).1 61 2) + 1)).1 61 4 = srtO (K.1 62 (K.1 61 2).toNat) := by rw [w61_n (by decide), w61_s]
    refine br_eq (a := (en_wI (en_wI K 61 4 (srtO (K.1 62 ((K.1 61 2).toNat)))) 61 3 (((en_wI K 61 4 (srtO (K.1 62 ((K.1 61 2).toNat)))).1 61 2) + 1)).1 61 4) (b := 1) (by omega) (by omega) (fun q2 => ?_) (fun q2 => ?_)
    · rcases (show srtO (K.1 62 (K.1 61 2).toNat) = 1 ∨ srtO (K.1 62 (K.1 61 2).toNat) = 2 by omega) with hs12 | hs12 <;>
      exact L_tk2 f Z M hT hz (srtO (f (tkS f Z b))) (srtO_b _) (tkS f Z b) _ (fun K2 h1 h2 => ⟨rfl, h1, by rw [htok, if_pos (by rw [← kf]; omega)]; exact h2⟩) (Z - (tkS f Z b + 1)) (tkS f Z b + 1) _ (by omega) (fr61_w (fr61_w hF (by decide)) (by decide)) (by rw [w61_n (by decide), w61_n (by decide)]; exact hK2) (by rw [w61_n (by decide), w61_s, kf]) (by rw [w61_s, w61_n (by decide), hK2]; rfl) rfl
    · refine br_ne (a := (en_wI (en_wI K 61 4 (srtO (K.1 62 ((K.1 61 2).toNat)))) 61 3 (((en_wI K 61 4 (srtO (K.1 62 ((K.1 61 2).toNat)))).1 61 2) + 1)).1 61 4) (b := 2) (by omega) (by omega) (fun q3 => ?_) (fun q3 => ?_)
      · refine aw_47_156 ?_
        exact ⟨rfl, fr61_w (fr61_w hF (by decide)) (by decide), by rw [htok]; exact ⟨by rw [w61_n (by decide), w61_n (by decide)]; exact hK2, by rw [w61_n (by decide), w61_s, kf], by rw [if_neg (by rw [← kf]; omega), w61_s, w61_n (by decide), hK2]; rfl⟩⟩
      · rcases (show srtO (K.1 62 (K.1 61 2).toNat) = 1 ∨ srtO (K.1 62 (K.1 61 2).toNat) = 2 by omega) with hs12 | hs12 <;>
        exact L_tk2 f Z M hT hz (srtO (f (tkS f Z b))) (srtO_b _) (tkS f Z b) _ (fun K2 h1 h2 => ⟨rfl, h1, by rw [htok, if_pos (by rw [← kf]; omega)]; exact h2⟩) (Z - (tkS f Z b + 1)) (tkS f Z b + 1) _ (by omega) (fr61_w (fr61_w hF (by decide)) (by decide)) (by rw [w61_n (by decide), w61_n (by decide)]; exact hK2) (by rw [w61_n (by decide), w61_s, kf]) (by rw [w61_s, w61_n (by decide), hK2]; rfl) rfl
  · have e : tok f Z b = (Z, 0, Z) := by unfold tok; rw [if_pos (by omega)]
    rw [e]
    exact ⟨rfl, fr61_w (fr61_w hF (by decide)) (by decide), by rw [w61_n (by decide), w61_n (by decide), hK2]; show _ = ((Z : Nat) : Int); omega, by rw [w61_n (by decide), w61_s], by rw [w61_s, w61_n (by decide), kz]⟩
def mtc (f : Nat → Int) (s n : Nat) : Nat → Nat → Bool
  | 0, _ => true
  | m + 1, i => if f (s + i) = (en_by.getD n []).getD i 0 then mtc f s n m (i + 1) else false
def nm (f : Nat → Int) (k : Nat × Int × Nat) (n : Nat) : Bool := if k.2.1 = 1 ∧ k.1 + en_ln n = k.2.2 then mtc f k.1 n (en_ln n) 0 else false
theorem mtc_c {f g : Nat → Int} {Z s n : Nat} (h : ∀ i, i < Z → f i = g i) : ∀ m i, s + i + m ≤ Z → mtc f s n m i = mtc g s n m i
  | 0, _, _ => rfl
  | m + 1, i, hi => by rw [mtc, mtc, h (s + i) (by omega), mtc_c h m (i + 1) (by omega)]
theorem nm_c {f g : Nat → Int} {Z n : Nat} {k : Nat × Int × Nat} (h : ∀ i, i < Z → f i = g i) (hk : k.2.2 ≤ Z) : nm f k n = nm g k n := by
  unfold nm
  by_cases z : k.2.1 = 1 ∧ k.1 + en_ln n = k.2.2
  · rw [if_pos z, if_pos z, mtc_c h _ _ (by omega)]
  · rw [if_neg z, if_neg z]
theorem L_nmX {post : Option AV → Mm → Prop} (f : Nat → Int) (Z : Nat) (M : Mm) (hT : tpO M 62 f Z) (k : Nat × Int × Nat) (hk : k.1 ≤ k.2.2 ∧ k.2.2 ≤ Z) (h2 : M.1 61 2 = ((k.1 : Nat) : Int)) (h4 : M.1 61 4 = k.2.1) (h3 : M.1 61 3 = ((k.2.2 : Nat) : Int)) (hk4 : 0 ≤ k.2.1 ∧ k.2.1 ≤ 4) (q : Nat) (hn : k.1 + en_ln q = k.2.2) (hq : ∀ b : Bool, mtc f k.1 q (en_ln q) 0 = b → post (some (.inl (if b = true then 1 else 0))) M) : ∀ (n : Nat) (i : Nat), (i + n = en_ln q) → (mtc f k.1 q (en_ln q) 0 = mtc f k.1 q n i) → en_AW 5 0 49 post 28 [some (.inr (.inr (1, 3, 61))), some (.inr (.inr (7, q, 0))), some (.inl ((i : Nat) : Int))] [] M 0 := by
  intro n
  induction n with
  | zero =>
    intro i hi hm
    have hZ := hT.2.1
    have kt : M.1 62 = f := hT.1
    have hln := ln_b q
    refine aw_49_28 ?_
    refine ⟨2, 0, by first | decide | omega, by first | decide | omega, en_Ct_eq (R_len q M) ?_⟩
    refine br_ge_y (a := ((i : Nat) : Int)) (b := ((en_ln q : Nat) : Int)) (by omega) (by omega) (by omega) ?_
    refine aw_49_63 ?_
    exact ⟨Or.inr rfl, hq true hm⟩
  | succ n ih =>
    intro i hi hm
    have hZ := hT.2.1
    have kt : M.1 62 = f := hT.1
    have hln := ln_b q
    have hfi := hT.2.2 (k.1 + i) (by omega)
    have bb := by_b (n := q) (i := i) (show i < en_ln q by omega)
    have ei : (M.1 61 2 + ((i : Nat) : Int)).toNat = k.1 + i := by omega
    have kf : M.1 62 (M.1 61 2 + ((i : Nat) : Int)).toNat = f (k.1 + i) := by rw [kt, ei]
    refine aw_49_28 ?_
    refine ⟨2, 0, by first | decide | omega, by first | decide | omega, en_Ct_eq (R_len q M) ?_⟩
    refine br_ge_n (a := ((i : Nat) : Int)) (b := ((en_ln q : Nat) : Int)) (by omega) (by omega) (by omega) ?_
    refine ⟨((M.1 61 2) + ((i : Nat) : Int)).toNat, it_nn (x := (M.1 61 2) + ((i : Nat) : Int)) (by omega), (show ((M.1 61 2) + ((i : Nat) : Int)).toNat < 250 by omega), ?_⟩
    refine ⟨4, 0, by first | decide | omega, by first | decide | omega, en_Ct_eq (R_charAt q i (by omega) M) ?_⟩
    refine br_eq (a := M.1 62 (((M.1 61 2) + ((i : Nat) : Int)).toNat)) (b := (en_by.getD q []).getD i 0) (by omega) (by omega) (fun q2 => ?_) (fun q2 => ?_)
    · refine aw_49_57 ?_
      exact ih (i + 1) (by omega) (by rw [hm, mtc, if_pos (by rw [← kf]; omega)])
    · exact ⟨Or.inl rfl, hq false (by rw [hm, mtc, if_neg (by rw [← kf]; omega)])⟩
theorem R_isNamed (f : Nat → Int) (Z : Nat) (M : Mm) (hT : tpO M 62 f Z) (k : Nat × Int × Nat) (hk : k.1 ≤ k.2.2 ∧ k.2.2 ≤ Z) (h2 : M.1 61 2 = ((k.1 : Nat) : Int)) (h4 : M.1 61 4 = k.2.1) (h3 : M.1 61 3 = ((k.2.2 : Nat) : Int)) (hk4 : 0 ≤ k.2.1 ∧ k.2.1 ≤ 4) (q : Nat) : en_Ct 5 0 49 [.inr (.inr (1, 3, 61)), .inr (.inr (7, q, 0))] M (fun r M' => r = some (.inl (if nm f k q = true then 1 else 0)) ∧ M' = M) := by
  have hZ := hT.2.1
  have kt : M.1 62 = f := hT.1
  have hln := ln_b q
  refine ct_49 rfl ?_
  refine aw_49_0 ?_
  refine br_ne (a := M.1 61 4) (b := 1) (by omega) (by omega) (fun q1 => ?_) (fun q1 => ?_)
  · refine aw_49_24 ?_
    refine ⟨Or.inl rfl, ?_⟩
    have e : nm f k q = false := by unfold nm; rw [if_neg (by omega)]
    rw [e]
    exact ⟨rfl, rfl⟩
  · refine ⟨2, 0, by first | decide | omega, by first | decide | omega, en_Ct_eq (R_len q M) ?_⟩
    refine br_eq (a := (M.1 61 3) - (M.1 61 2)) (b := ((en_ln q : Nat) : Int)) (by omega) (by omega) (fun q2 => ?_) (fun q2 => ?_)
    · refine aw_49_26 ?_
      refine L_nmX f Z M hT k hk h2 h4 h3 hk4 q (by omega) (fun b hb => ?_) (en_ln q) 0 (Nat.zero_add _) rfl
      have e : nm f k q = b := by unfold nm; rw [if_pos (by omega)]; exact hb
      rw [e]
      exact ⟨rfl, rfl⟩
    · refine aw_49_24 ?_
      refine ⟨Or.inl rfl, ?_⟩
      have e : nm f k q = false := by unfold nm; rw [if_neg (by omega)]
      rw [e]
      exact ⟨rfl, rfl⟩
