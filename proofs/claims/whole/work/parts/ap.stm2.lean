theorem mf_ev {X E : Ev} (h : evs X E) (hg : s_ok X) {p n : Nat} {g g' : Nat → Int} (hgg : ∀ i, i ≤ n → g i = g' i) (hok : ∀ i, i < n → s_mf X p g i) : s_mf X p g n ↔ s_mf E p g' n := by
  have hW := hg.1.2.1
  have e1 := h.1 1 (by decide)
  have key : ∀ z : 0 ≤ g n ∧ g n < X.1 0 1, (s_can X p (g n).toNat = s_can E p (g n).toNat) ∧ ∀ k, k ≤ n → X.1 4 (g k).toNat = E.1 4 (g k).toNat := fun z => ⟨ev_can h p (by omega), fun k hk => by
    refine ev_r h 4 (by decide) (by decide) ?_
    by_cases e : k = n
    · rw [e]; omega
    · have := (hok k (by omega)).1
      omega⟩
  unfold s_mf
  rw [← hgg n (Nat.le_refl _), ← e1]
  constructor
  · rintro ⟨z1, z2, z3⟩
    obtain ⟨k1, k2⟩ := key z1
    exact ⟨z1, by rw [← k1]; exact z2, fun k hk => by rw [← hgg k (by omega), ← k2 k (by omega), ← k2 n (Nat.le_refl _)]; exact z3 k hk⟩
  · rintro ⟨z1, z2, z3⟩
    obtain ⟨k1, k2⟩ := key z1
    exact ⟨z1, by rw [k1]; exact z2, fun k hk => by
      have := z3 k hk
      rw [← hgg k (by omega), ← k2 k (by omega), ← k2 n (Nat.le_refl _)] at this
      exact this⟩
theorem upf_n {g : Nat → Int} {n i : Nat} {v : Int} (h : i ≠ n) : upf g n v i = g i := if_neg h
theorem upf_s {g : Nat → Int} {n : Nat} {v : Int} : upf g n v n = v := if_pos rfl
theorem mf_up {X : Ev} {p n i : Nat} {g : Nat → Int} {v : Int} (hi : i < n) : s_mf X p (upf g n v) i ↔ s_mf X p g i := by
  unfold s_mf
  rw [upf_n (by omega)]
  constructor
  · rintro ⟨z1, z2, z3⟩
    exact ⟨z1, z2, fun k hk => by have := z3 k hk; rw [upf_n (by omega)] at this; exact this⟩
  · rintro ⟨z1, z2, z3⟩
    exact ⟨z1, z2, fun k hk => by rw [upf_n (by omega)]; exact z3 k hk⟩
section RS
variable {f f' : Nat → Int} {Z : Nat} {X E : Ev}
theorem rr_shR (hf : ∀ i, i < Z → f i = f' i) (h : evs X E) (hg : s_ok X) {p : Nat} : ∀ (m n : Nat) (g g' : Nat → Int) (k : Tk), n + m = 5 → (∀ i, i < n → g i = g' i) → (∀ i, i < n → s_mf X p g i) → tkO f Z k → rr f Z X (shR f Z X p m n g k) (shR f' Z E p m n g' k)
  | 0, n, g, g', k, hn, hgg, hok, hk => by
    rw [shR, shR]
    by_cases z : k.2.1 = 2
    · rw [if_pos z, if_pos z]; exact rr_no hk
    · rw [if_neg z, if_neg z]
      exact rr_so hk (ev_sh h hgg) (ok_sh (q := p) hg (by omega) hok) (Int.le_refl _)
  | m + 1, n, g, g', k, hn, hgg, hok, hk => by
    rw [shR, shR, ← vl_c hf hk.1, ← tok_c hf hk.1.2]
    by_cases z : k.2.1 = 2
    · rw [if_pos z, if_pos z]
      have hg2 : ∀ i, i ≤ n → upf g n (vl f k) i = upf g' n (vl f k) i := fun i hi => by
        by_cases e : i = n
        · rw [e, upf_s, upf_s]
        · rw [upf_n e, upf_n e]; exact hgg i (by omega)
      have hok2 : ∀ i, i < n → s_mf X p (upf g n (vl f k)) i := fun i hi => (mf_up hi).mpr (hok i hi)
      have hmf := mf_ev h hg (p := p) hg2 hok2
      by_cases z2 : s_mf X p (upf g n (vl f k)) n
      · rw [if_pos z2, if_pos (hmf.mp z2)]
        exact rr_shR hf h hg m (n + 1) _ _ _ (by omega) (fun i hi => hg2 i (by omega)) (fun i hi => by
          by_cases e : i = n
          · rw [e]; exact z2
          · exact hok2 i (by omega)) (tok_ok hk.1.2)
      · rw [if_neg z2, if_neg (fun q => z2 (hmf.mpr q))]; exact rr_no hk
    · rw [if_neg z, if_neg z]
      exact rr_so hk (ev_sh h hgg) (ok_sh (q := p) hg (by omega) hok) (Int.le_refl _)
theorem rr_col (hf : ∀ i, i < Z → f i = f' i) (h : evs X E) (hg : s_ok X) {k : Tk} (hk : tkO f Z k) (hW : X.1 0 1 = 0) : rr f Z X (sCol f Z X k) (sCol f' Z E k) := rr_rn hf hk (fun z1 z2 _ => by
  have hu := eu_columns h hg (n := vl f k) (by unfold a_columns; rw [if_pos ⟨z1, z2⟩, if_neg (by omega)])
  exact rr_so (tok_ok hk.1.2) hu.1 hu.2.1 hu.2.2)
theorem rr_word (hf : ∀ i, i < Z → f i = f' i) (h : evs X E) (hg : s_ok X) {k : Tk} (hk : tkO f Z k) (hW : X.1 0 1 < 24) : rr f Z X (sWord f Z X k) (sWord f' Z E k) := by
  unfold sWord
  rw [← h.1 0 (by decide)]
  refine rr_rn hf hk (fun a1 a2 _ => ?_)
  have t1 := tok_ok (f := f) hk.1.2
  refine rr_rn hf t1 (fun b1 b2 _ => ?_)
  have t2 := tok_ok (f := f) t1.1.2
  refine rr_rn hf t2 (fun c1 c2 _ => ?_)
  have t3 := tok_ok (f := f) t2.1.2
  refine rr_rn hf t3 (fun d1 d2 _ => ?_)
  have t4 := tok_ok (f := f) t3.1.2
  refine rr_rn hf t4 (fun e1 e2 _ => ?_)
  have hu := eu_word h hg (k := vl f k) (l := vl f (tok f Z k.2.2)) (c := vl f (tok f Z (tok f Z k.2.2).2.2)) (s := vl f (tok f Z (tok f Z (tok f Z k.2.2).2.2).2.2)) (a := vl f (tok f Z (tok f Z (tok f Z (tok f Z k.2.2).2.2).2.2).2.2)) (by unfold a_word; rw [if_pos ⟨⟨a1, a2⟩, ⟨b1, b2⟩, ⟨c1, by omega⟩, ⟨d1, d2⟩, e1, e2⟩, if_pos hW])
  exact rr_so (tok_ok t4.1.2) hu.1 hu.2.1 hu.2.2
theorem rr_kno (hf : ∀ i, i < Z → f i = f' i) (h : evs X E) (hg : s_ok X) {k : Tk} (hk : tkO f Z k) : rr f Z X (sKno f Z X k) (sKno f' Z E k) := by
  unfold sKno
  rw [← h.1 2 (by decide), ← h.1 1 (by decide)]
  refine rr_rn hf hk (fun a1 a2 _ => ?_)
  have t1 := tok_ok (f := f) hk.1.2
  refine rr_rn hf t1 (fun b1 b2 _ => ?_)
  have hu := eu_knows h hg (x := vl f k) (y := vl f (tok f Z k.2.2)) (z := 1) (Or.inr rfl) (by unfold a_knows; rw [if_pos ⟨⟨a1, by omega⟩, b1, by omega⟩])
  exact rr_so (tok_ok t1.1.2) hu.1 hu.2.1 hu.2.2
theorem rr_ask (hf : ∀ i, i < Z → f i = f' i) (h : evs X E) (hg : s_ok X) {k : Tk} (hk : tkO f Z k) {w : Nat} (hw : w < 3) : rr f Z X (sAsk f Z X w k) (sAsk f' Z E w k) := rr_rn hf hk (fun z1 z2 _ => by
  have hokA : okA (w : Int) (vl f k) := by
    rcases (show w = 0 ∨ w = 1 ∨ w = 2 by omega) with e | e | e <;> subst e
    · have z1 : (0 : Int) ≤ vl f k := z1
      have z2 : vl f k ≤ (25 : Int) := z2
      unfold okA; omega
    · have z1 : (1 : Int) ≤ vl f k := z1
      have z2 : vl f k ≤ (5 : Int) := z2
      unfold okA; omega
    · have z1 : (1 : Int) ≤ vl f k := z1
      have z2 : vl f k ≤ (600 : Int) := z2
      unfold okA; omega
  have hu := eu_ask h hg (w := (w : Int)) (v := vl f k) (by unfold a_ask; rw [if_pos hokA])
  exact rr_so (tok_ok hk.1.2) hu.1 hu.2.1 hu.2.2)
theorem rr_pts (hf : ∀ i, i < Z → f i = f' i) (h : evs X E) (hg : s_ok X) {k : Tk} (hk : tkO f Z k) : rr f Z X (sPts f Z X k) (sPts f' Z E k) := by
  unfold sPts
  refine rr_rn hf hk (fun a1 a2 _ => ?_)
  have t1 := tok_ok (f := f) hk.1.2
  refine rr_rn hf t1 (fun b1 b2 _ => ?_)
  have t2 := tok_ok (f := f) t1.1.2
  refine rr_rn hf t2 (fun c1 c2 _ => ?_)
  have hu := eu_ask h hg (w := 3) (v := vl f k) (by unfold a_ask; rw [if_pos (by unfold okA; omega)])
  have hv := eu_ask hu.1 hu.2.1 (w := 4) (v := vl f (tok f Z k.2.2)) (by unfold a_ask; rw [if_pos (by unfold okA; omega)])
  have hw := eu_ask hv.1 hv.2.1 (w := 5) (v := vl f (tok f Z (tok f Z k.2.2).2.2)) (by unfold a_ask; rw [if_pos (by unfold okA; omega)])
  exact rr_so (tok_ok t2.1.2) hw.1 hw.2.1 (Int.le_trans hu.2.2 (Int.le_trans hv.2.2 hw.2.2))
theorem rr_she (hf : ∀ i, i < Z → f i = f' i) (h : evs X E) (hg : s_ok X) {g g' : Nat → Int} {k : Tk} (hk : tkO f Z k) : rr f Z X (sShe f Z X g k) (sShe f' Z E g' k) := by
  unfold sShe
  rw [← h.1 2 (by decide)]
  refine rr_rn hf hk (fun a1 a2 _ => ?_)
  exact rr_shR hf h hg 5 0 g g' _ rfl (fun i hi => absurd hi (Nat.not_lt_zero i)) (fun i hi => absurd hi (Nat.not_lt_zero i)) (tok_ok hk.1.2)
theorem rr_stm (hf : ∀ i, i < Z → f i = f' i) (h : evs X E) (hg : s_ok X) {g g' : Nat → Int} {k : Tk} (hk : tkO f Z k) : rr f Z X (stm f Z X g k) (stm f' Z E g' k) := by
  have t1 := tok_ok (f := f) hk.1.2
  unfold stm
  rw [← nm_c (n := 0) hf hk.1.2, ← nm_c (n := 1) hf hk.1.2, ← nm_c (n := 2) hf hk.1.2, ← nm_c (n := 3) hf hk.1.2, ← nm_c (n := 4) hf hk.1.2, ← nm_c (n := 5) hf hk.1.2, ← nm_c (n := 6) hf hk.1.2, ← nm_c (n := 7) hf hk.1.2, ← nm_c (n := 8) hf hk.1.2, ← tok_c hf hk.1.2, ← h.1 1 (by decide), ← h.1 2 (by decide)]
  by_cases z0 : nm f k 0 = true
  · rw [if_pos z0, if_pos z0]
    by_cases q : X.1 0 1 = 0
    · rw [if_pos q, if_pos q]; exact rr_col hf h hg t1 q
    · rw [if_neg q, if_neg q]; exact rr_no hk
  rw [if_neg z0, if_neg z0]
  by_cases z1 : nm f k 1 = true
  · rw [if_pos z1, if_pos z1]
    by_cases q : X.1 0 1 < 24
    · rw [if_pos q, if_pos q]; exact rr_word hf h hg t1 q
    · rw [if_neg q, if_neg q]; exact rr_no hk
  rw [if_neg z1, if_neg z1]
  by_cases z2 : nm f k 2 = true
  · rw [if_pos z2, if_pos z2]
    by_cases q : X.1 0 2 < 4
    · rw [if_pos q, if_pos q]
      have hu := eu_person h hg (by unfold a_person; rw [if_pos q])
      exact rr_so t1 hu.1 hu.2.1 hu.2.2
    · rw [if_neg q, if_neg q]; exact rr_no hk
  rw [if_neg z2, if_neg z2]
  by_cases z3 : nm f k 3 = true
  · rw [if_pos z3, if_pos z3]; exact rr_kno hf h hg t1
  rw [if_neg z3, if_neg z3]
  by_cases z4 : nm f k 4 = true
  · rw [if_pos z4, if_pos z4]; exact rr_ask hf h hg t1 (by decide)
  rw [if_neg z4, if_neg z4]
  by_cases z5 : nm f k 5 = true
  · rw [if_pos z5, if_pos z5]; exact rr_ask hf h hg t1 (by decide)
  rw [if_neg z5, if_neg z5]
  by_cases z6 : nm f k 6 = true
  · rw [if_pos z6, if_pos z6]; exact rr_ask hf h hg t1 (by decide)
  rw [if_neg z6, if_neg z6]
  by_cases z7 : nm f k 7 = true
  · rw [if_pos z7, if_pos z7]; exact rr_pts hf h hg t1
  rw [if_neg z7, if_neg z7]
  by_cases z8 : nm f k 8 = true
  · rw [if_pos z8, if_pos z8]; exact rr_she hf h hg t1
  rw [if_neg z8, if_neg z8]
  exact rr_no hk
end RS
