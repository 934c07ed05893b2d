/-! bestWord -/
theorem ups_self {E : Ev} {p i : Nat} {v : Int} (h : E.2 p i = v) : ups E p i v = E := by
  subst h
  unfold ups
  refine Prod.ext rfl (funext fun q => ?_)
  by_cases hq : q = p
  · subst hq
    simp only [if_true]
    funext j
    by_cases hj : j = i
    · subst hj; rw [if_pos rfl]
    · rw [if_neg hj]
  · simp only [if_neg hq]
theorem ups_ups {E : Ev} {p i : Nat} {v w : Int} : ups (ups E p i v) p i w = ups E p i w := by
  unfold ups
  refine Prod.ext rfl (funext fun q => ?_)
  by_cases hq : q = p
  · subst hq
    simp only [if_true]
    funext j
    by_cases hj : j = i
    · subst hj; rw [if_pos rfl, if_pos rfl]
    · rw [if_neg hj, if_neg hj, if_neg hj]
  · simp only [if_neg hq]
theorem upr_ups {E : Ev} {p i r j : Nat} {v w : Int} : upr (ups E p i v) r j w = ups (upr E r j w) p i v := rfl
/-- so many numbers below n, all apart: no more than n -/
theorem ph : ∀ (n : Nat) (l : List Nat), l.Nodup → (∀ x ∈ l, x < n) → l.length ≤ n
  | 0, l, _, h => by
    cases l with
    | nil => exact Nat.le_refl 0
    | cons a r => exact absurd (h a (List.mem_cons_self ..)) (Nat.not_lt_zero a)
  | n + 1, l, hd, h => by
    by_cases hm : n ∈ l
    · have h1 := ph n (l.erase n) (hd.erase n) (fun x hx => by
        have h2 := (List.Nodup.mem_erase_iff hd).mp hx
        have := h x h2.2
        have := h2.1
        omega)
      rw [List.length_erase_of_mem hm] at h1
      omega
    · have h1 := ph n l hd (fun x hx => by
        have := h x hx
        have h3 : x ≠ n := fun z => hm (z ▸ hx)
        omega)
      omega
theorem op_none {col f : Nat → Int} {c : Int} : ∀ n i, s_op col f c n i = none → ∀ k, i ≤ k → k < i + n → col (f k).toNat ≠ c
  | 0, _, _, k, h1, h2 => by omega
  | n + 1, i, h, k, h1, h2 => by
    unfold s_op at h
    by_cases hc : col (f i).toNat = c
    · rw [if_pos hc] at h
      cases h
    · rw [if_neg hc] at h
      by_cases hk : k = i
      · subst hk; exact hc
      · exact op_none n (i + 1) h k (by omega) (by omega)
theorem op_some {col f : Nat → Int} {c : Int} {j : Nat} : ∀ n i, s_op col f c n i = some j → i ≤ j ∧ j < i + n ∧ col (f j).toNat = c
  | 0, _, h => by cases h
  | n + 1, i, h => by
    unfold s_op at h
    by_cases hc : col (f i).toNat = c
    · rw [if_pos hc] at h
      cases h
      exact ⟨Nat.le_refl _, by omega, hc⟩
    · rw [if_neg hc] at h
      have := op_some n (i + 1) h
      omega
theorem op_c {col col' f f' : Nat → Int} {c : Int} : ∀ n i, (∀ k, i ≤ k → k < i + n → col (f k).toNat = col' (f' k).toNat) → s_op col f c n i = s_op col' f' c n i
  | 0, _, _ => rfl
  | n + 1, i, h => by rw [s_op, s_op, h i (Nat.le_refl _) (by omega), op_c n (i + 1) (fun k h1 h2 => h k (by omega) (by omega))]
def s_opE (E : Ev) (p : Nat) (c : Int) : Option Nat := s_op (E.1 4) (E.2 p) c (E.1 14 p).toNat 0
def s_pl (E : Ev) (p : Nat) (c : Int) : Nat := match s_opE E p c with | some j => j | none => (E.1 14 p).toNat
def s_sz (E : Ev) (p : Nat) (c : Int) : Int := match s_opE E p c with | some _ => E.1 14 p | none => E.1 14 p + 1
def bwT (E : Ev) (p : Nat) (c : Int) (w : Int) : Ev := ups (upr E 14 p (s_sz E p c)) p (s_pl E p c) w
theorem op_cases (E : Ev) (p : Nat) (c : Int) : (∃ j, s_opE E p c = some j ∧ s_pl E p c = j ∧ s_sz E p c = E.1 14 p) ∨ (s_opE E p c = none ∧ s_pl E p c = (E.1 14 p).toNat ∧ s_sz E p c = E.1 14 p + 1) := by
  unfold s_pl s_sz
  cases h : s_opE E p c with
  | some j => exact Or.inl ⟨j, rfl, rfl, rfl⟩
  | none => exact Or.inr ⟨rfl, rfl, rfl⟩
theorem size_lt5 {E : Ev} (hg : s_ok E) {p : Nat} (hp : p < 4) {c : Int} (hc : 0 ≤ c ∧ c < E.1 0 0) (h : s_opE E p c = none) : E.1 14 p < 5 := by
  obtain ⟨s1, s2⟩ := hg.2.2.1 p hp
  have hn := op_none _ _ h
  have hcol : ∀ i : Nat, (i : Int) < E.1 14 p → 0 ≤ E.1 4 (E.2 p i).toNat ∧ E.1 4 (E.2 p i).toNat < E.1 0 0 := fun i hi => by
    have := s2 i hi
    exact (hg.2.1 (E.2 p i).toNat (by omega)).2.2.1
  have h5 := hg.1.1
  have key := ph 5 (c.toNat :: (List.range (E.1 14 p).toNat).map (fun i => (E.1 4 (E.2 p i).toNat).toNat)) (List.nodup_cons.mpr ⟨fun hm => by
    obtain ⟨i, hi, he⟩ := List.mem_map.mp hm
    have hi' := List.mem_range.mp hi
    have h1 := hcol i (by omega)
    exact hn i (Nat.zero_le _) (by omega) (by omega), List.pairwise_map.mpr (List.Pairwise.imp_of_mem (fun {a b} ha hb hab he => by
    have hb' := List.mem_range.mp hb
    have ha' := List.mem_range.mp ha
    have h1 := hcol a (by omega)
    have h2 := hcol b (by omega)
    exact hg.2.2.2.1 p hp a b hab (by omega) (by omega)) List.pairwise_lt_range)⟩) (fun x hx => by
    rcases List.mem_cons.mp hx with z | z
    · omega
    · obtain ⟨i, hi, he⟩ := List.mem_map.mp z
      have hi' := List.mem_range.mp hi
      have h1 := hcol i (by omega)
      omega)
  rw [List.length_cons, List.length_map, List.length_range] at key
  omega
theorem ok_bw {E : Ev} (hg : s_ok E) {p pl w : Nat} {sz : Int} (hp : p < 4) (hw : (w : Int) < E.1 0 1) (hsz : 0 ≤ sz ∧ sz ≤ 5) (h1 : ∀ i : Nat, (i : Int) < sz → i ≠ pl → (i : Int) < E.1 14 p ∧ E.1 4 (E.2 p i).toNat ≠ E.1 4 w) : s_ok (ups (upr E 14 p sz) p pl (w : Int)) := by
  obtain ⟨g1, g2, g3, g4, g5⟩ := hg
  have e14 : ∀ q, (ups (upr E 14 p sz) p pl (w : Int)).1 14 q = if q = p then sz else E.1 14 q := fun q => rfl
  have e2 : ∀ q i, (ups (upr E 14 p sz) p pl (w : Int)).2 q i = if q = p then (if i = pl then (w : Int) else E.2 p i) else E.2 q i := fun q i => by
    show (if q = p then _ else E.2 q) i = _
    by_cases h : q = p
    · rw [if_pos h, if_pos h]
      rfl
    · rw [if_neg h, if_neg h]
  refine ⟨g1, g2, fun q hq => ?_, fun q hq a b hab hb => ?_, g5⟩
  · unfold s_sh
    rw [e14]
    by_cases h : q = p
    · rw [if_pos h]
      refine ⟨hsz, fun i hi => ?_⟩
      rw [e2, if_pos h]
      by_cases hi2 : i = pl
      · rw [if_pos hi2]
        exact ⟨by omega, hw⟩
      · rw [if_neg hi2]
        exact (g3 p hp).2 i (h1 i hi hi2).1
    · rw [if_neg h]
      refine ⟨(g3 q hq).1, fun i hi => ?_⟩
      rw [e2, if_neg h]
      exact (g3 q hq).2 i hi
  · rw [e14] at hb
    rw [e2, e2]
    by_cases h : q = p
    · rw [if_pos h] at hb
      rw [if_pos h, if_pos h]
      show E.1 4 _ ≠ E.1 4 _
      by_cases ha : a = pl
      · have hbn : b ≠ pl := by omega
        rw [if_pos ha, if_neg hbn, Int.toNat_natCast]
        exact (h1 b hb hbn).2.symm
      · rw [if_neg ha]
        by_cases hb2 : b = pl
        · rw [if_pos hb2, Int.toNat_natCast]
          exact (h1 a (by omega) ha).2
        · rw [if_neg hb2]
          exact g4 p hp a b hab (h1 b hb hb2).1
    · rw [if_neg h] at hb
      rw [if_neg h, if_neg h]
      exact g4 q hq a b hab hb
theorem ok_bwT {E : Ev} (hg : s_ok E) {p w : Nat} {c : Int} (hp : p < 4) (hc : 0 ≤ c ∧ c < E.1 0 0) (hw : (w : Int) < E.1 0 1) (hcw : E.1 4 w = c) : s_ok (bwT E p c (w : Int)) := by
  unfold bwT
  have s1 := (hg.2.2.1 p hp).1
  rcases op_cases E p c with ⟨j, h1, h2, h3⟩ | ⟨h1, h2, h3⟩
  · rw [h2, h3]
    have ho := op_some _ _ h1
    refine ok_bw hg hp hw s1 (fun i hi hij => ⟨hi, ?_⟩)
    rw [hcw, ← ho.2.2]
    rcases Nat.lt_or_gt_of_ne hij with z | z
    · exact hg.2.2.2.1 p hp i j z (by omega)
    · exact fun e => hg.2.2.2.1 p hp j i z hi e.symm
  · rw [h2, h3]
    have h5 := size_lt5 hg hp hc h1
    refine ok_bw hg hp hw (by omega) (fun i hi hij => ⟨by omega, ?_⟩)
    rw [hcw]
    exact op_none _ _ h1 i (Nat.zero_le _) (by omega)
theorem ev_op {E F : Ev} (h : evs E F) (hg : s_ok E) {p : Nat} (hp : p < 4) {c : Int} : s_opE E p c = s_opE F p c := by
  unfold s_opE
  rw [← (h.2.2.2.1 p hp).1]
  have s2 := hg.2.2.1 p hp
  refine op_c _ _ (fun k _ hk => ?_)
  have h1 := s2.2 k (by have := s2.1; omega)
  rw [← h.2.2.2.2 p k hp (by have := s2.1; omega), ev_r h 4 (by decide) (by decide) (by have := hg.1.2.1; omega)]
theorem ev_bwT {E F : Ev} (h : evs E F) (hg : s_ok E) {p : Nat} (hp : p < 4) {c w : Int} : evs (bwT E p c w) (bwT F p c w) := by
  have ho := ev_op (c := c) h hg hp
  have e14 := (h.2.2.2.1 p hp).1
  have ep : s_pl E p c = s_pl F p c := by unfold s_pl; rw [ho, e14]
  have es : s_sz E p c = s_sz F p c := by unfold s_sz; rw [ho, e14]
  unfold bwT
  rw [← ep, ← es]
  refine ⟨fun i hi => h.1 i hi, fun i hi => h.2.1 i hi, fun r i h2 h8 hi => ?_, fun q hq => ⟨?_, (h.2.2.2.1 q hq).2⟩, fun q i hq hi => ?_⟩
  · show (upr E 14 p _).1 r i = (upr F 14 p _).1 r i
    rw [upr_n (by omega), upr_n (by omega)]
    exact h.2.2.1 r i h2 h8 hi
  · show (upr E 14 p _).1 14 q = (upr F 14 p _).1 14 q
    exact upr_c (h.2.2.2.1 q hq).1
  · have hi' : (i : Int) < (upr E 14 p (s_sz E p c)).1 14 q := hi
    by_cases hh : q = p ∧ i = s_pl E p c
    · obtain ⟨rfl, rfl⟩ := hh
      rw [ups_s, ups_s]
    · rw [ups_n (by omega), ups_n (by omega)]
      refine h.2.2.2.2 q i hq ?_
      by_cases hqp : q = p
      · subst hqp
        rw [upr_s] at hi'
        rcases op_cases E q c with ⟨j, h1, h2, h3⟩ | ⟨h1, h2, h3⟩
        · omega
        · have := (hg.2.2.1 q hq).1
          omega
      · rw [upr_n (by omega)] at hi'
        exact hi'
def s_bw (E : Ev) (p : Nat) (c : Int) : Nat → Int × Int
  | 0 => (-1, -1)
  | n + 1 => if E.1 4 n = c ∧ s_can E p n = true then (if (s_bw E p c n).2 < pts (bwT E p c (n : Int)) p (-1) then ((n : Int), pts (bwT E p c (n : Int)) p (-1)) else s_bw E p c n) else s_bw E p c n
theorem bw_b {E : Ev} (hg : s_ok E) {p : Nat} (hp : p < 4) {c : Int} (hc : 0 ≤ c ∧ c < E.1 0 0) : ∀ n : Nat, (n : Int) ≤ E.1 0 1 → (-1 ≤ (s_bw E p c n).1 ∧ (s_bw E p c n).1 < (n : Int)) ∧ (-1 ≤ (s_bw E p c n).2 ∧ (s_bw E p c n).2 ≤ 250) ∧ ((s_bw E p c n).1 = -1 ↔ (s_bw E p c n).2 = -1)
  | 0, _ => by simp [s_bw]
  | n + 1, hn => by
    have ih := bw_b hg hp hc n (by omega)
    unfold s_bw
    split
    · rename_i hz
      have hb := pts_b (E := bwT E p c (n : Int)) (p := p) (c := -1) (ok_bwT hg hp hc (by omega) hz.1) hp
      split
      · dsimp only
        omega
      · omega
    · omega
theorem ev_bw {E F : Ev} (h : evs E F) (hg : s_ok E) {p : Nat} (hp : p < 4) {c : Int} (hc : 0 ≤ c ∧ c < E.1 0 0) : ∀ n : Nat, (n : Int) ≤ E.1 0 1 → s_bw E p c n = s_bw F p c n
  | 0, _ => rfl
  | n + 1, hn => by
    have h24 : n < 24 := by have := hg.1.2.1; omega
    rw [s_bw, s_bw, ev_bw h hg hp hc n (by omega), ← ev_r h 4 (by decide) (by decide) h24, ← ev_can h p h24]
    by_cases hz : E.1 4 n = c ∧ s_can E p n = true
    · rw [if_pos hz, if_pos hz, ev_pts (ev_bwT h hg hp) (ok_bwT hg hp hc (by omega) hz.1) hp]
    · rw [if_neg hz, if_neg hz]
theorem bw_t {E : Ev} {p : Nat} {c : Int} {n : Nat} (h : E.1 4 n = c ∧ s_can E p n = true) (h2 : (s_bw E p c n).2 < pts (bwT E p c (n : Int)) p (-1)) : s_bw E p c (n + 1) = ((n : Int), pts (bwT E p c (n : Int)) p (-1)) := by rw [s_bw, if_pos h, if_pos h2]
theorem bw_f {E : Ev} {p : Nat} {c : Int} {n : Nat} (h : E.1 4 n = c ∧ s_can E p n = true → ¬ (s_bw E p c n).2 < pts (bwT E p c (n : Int)) p (-1)) : s_bw E p c (n + 1) = s_bw E p c n := by
  rw [s_bw]
  by_cases h1 : E.1 4 n = c ∧ s_can E p n = true
  · rw [if_pos h1, if_neg (h h1)]
  · rw [if_neg h1]
theorem X_op {N : Mm} (hg : s_ok (vE N 33)) {p : Nat} (hp : p < 4) {c : Int} (hc : 0 ≤ c ∧ c < (vE N 33).1 0 0) : en_Ct 1 0 24 [.inr (.inr (1, 1, 33)), .inl ((p : Nat) : Int), .inl c] N (fun r N' => r = some (.inl ((s_pl (vE N 33) p c : Nat) : Int)) ∧ fr 33 49 N N' ∧ ∃ t, isE N' 33 (bwT (vE N 33) p c t)) := by
  have h5 := hg.1.1
  have s1 := (hg.2.2.1 p hp).1
  refine en_Ct_mono (R_op 33 p N hp hg.1 hg.2.1 (hg.2.2.1 p hp) c (by omega) (fun h => size_lt5 hg hp hc h)) ?_
  rintro r M' (⟨j, h1, rfl, hM⟩ | ⟨h1, rfl, rfl⟩)
  · have h1' : s_opE (vE N 33) p c = some j := h1
    have e1 : s_pl (vE N 33) p c = j := by unfold s_pl; rw [h1']
    have e2 : s_sz (vE N 33) p c = (vE N 33).1 14 p := by unfold s_sz; rw [h1']
    rw [e1]
    refine ⟨rfl, by rw [hM]; exact fr_rfl, (vE N 33).2 p j, ?_⟩
    unfold bwT
    rw [e1, e2, upr_self rfl, ups_self rfl, hM]
    exact isE_self
  · have h1' : s_opE (vE N 33) p c = none := h1
    have e1 : s_pl (vE N 33) p c = ((vE N 33).1 14 p).toNat := by unfold s_pl; rw [h1']
    have e2 : s_sz (vE N 33) p c = (vE N 33).1 14 p + 1 := by unfold s_sz; rw [h1']
    refine ⟨congrArg (fun z => some (Sum.inl z)) (show N.1 (33 + 14) p = _ from ?_), fr_w (fr_w fr_rfl (by omega) (by omega)) (by omega) (by omega), 0, ?_⟩
    · rw [e1]
      have : (vE N 33).1 14 p = N.1 (33 + 14) p := rfl
      omega
    · unfold bwT
      rw [e1, e2, ← upr_ups]
      exact isE_w (isE_ws isE_self hp _ _) (by decide) p _
theorem X_canT {K : Mm} {E E3 : Ev} (hI : isE K 1 E) (hg : s_ok E) (hev : evs E3 E) {p i : Nat} (hp : p < 4) (hi : (i : Int) < E.1 0 1) : en_Ct 2 0 21 [.inr (.inr (1, 1, 1)), .inl ((p : Nat) : Int), .inl ((i : Nat) : Int)] K (fun r M' => r = some (.inl (if s_can E3 p i = true then 1 else 0)) ∧ M' = K) := by
  have := W_can hI hg (p := p) (x := ((i : Nat) : Int)) hp (by omega) hi
  rw [Int.toNat_natCast, ← ev_can hev p (by have := hg.1.2.1; omega)] at this
  exact this
theorem X_pitN {E : Ev} {M : Mm} (hI : isE M 33 E) (hg : s_ok E) {p : Nat} (h1 : (p : Int) < E.1 0 2) : en_Ct 5 0 132 [.inr (.inr (1, 5, 0)), .inl ((p : Nat) : Int)] M (fun r M' => r = some (.inl (pts E p (-1))) ∧ fr 49 52 M M' ∧ isO M' E) := R_pit E M hI hg p (by omega) h1
theorem L_bwX {post : Option AV → Mm → Prop} (E E3 : Ev) (N : Mm) (hg : s_ok E) (hev : evs E3 E) (hg3 : s_ok E3) (p : Nat) (c : Int) (hp : (p : Int) < E3.1 0 2) (hc : 0 ≤ c ∧ c < E3.1 0 0) (hq : ∀ K : Mm, fr 33 52 N K → post (some (.inl (s_bw E3 p c (E.1 0 1).toNat).1)) K) : ∀ (n : Nat) (i : Nat) (K : Mm), (((i : Nat) : Int) + ((n : Nat) : Int) = E.1 0 1) → (isE K 1 E) → (∃ t, isE K 33 (bwT E3 p c t)) → (fr 33 52 N K) → en_AW 9 0 96 post 59 [some (.inr (.inr (1, 5, 0))), some (.inl ((p : Nat) : Int)), some (.inl c), some (.inl ((s_pl E3 p c : Nat) : Int)), some (.inl ((s_bw E3 p c i).1)), some (.inl ((s_bw E3 p c i).2)), some (.inl ((i : Nat) : Int)), none] [] K 0 := by
  intro n
  induction n with
  | zero =>
    intro i K hi hI hI3 hF
    have k1 : K.1 1 1 = E.1 0 1 := r0_I hI 1
    have n1 := hg.1.2.1
    refine aw_96_59 ?_
    refine br_ge_y (a := ((i : Nat) : Int)) (b := K.1 1 1) (by omega) (by omega) (by omega) ?_
    refine aw_96_139 ?_
    rw [show i = (E.1 0 1).toNat by omega]
    exact hq K hF
  | succ n ih =>
    intro i K hi hI hI3 hF
    obtain ⟨n0, n1, n2, a0, a1, a2, a3, a4, a5, a6, a7⟩ := hg.1
    have k1 : K.1 1 1 = E.1 0 1 := r0_I hI 1
    have e01 := hev.1 1 (by decide)
    have e02 := hev.1 2 (by decide)
    have e00 := hev.1 0 (by decide)
    have k4 : K.1 5 i = E3.1 4 i := by
      rw [ev_r hev 4 (by decide) (by decide) (show i < 24 by omega)]
      exact congrFun (hI.1 4 (by decide)) i
    have c4 := (hg3.2.1 i (by omega)).2.2.1
    have nb := bw_b hg3 (p := p) (c := c) (by omega) hc i (by omega)
    have hpl : s_pl E3 p c < 5 := by
      have s1 := (hg3.2.2.1 p (by omega)).1
      rcases op_cases E3 p c with ⟨j, h1, h2, h3⟩ | ⟨h1, h2, h3⟩
      · have := op_some _ _ h1
        omega
      · have := size_lt5 hg3 (by omega) hc h1
        omega
    refine aw_96_59 ?_
    refine br_ge_n (a := ((i : Nat) : Int)) (b := K.1 1 1) (by omega) (by omega) (by omega) ?_
    refine ⟨i, rfl, (show i < 24 by omega), ?_⟩
    refine br_ne (a := K.1 5 i) (b := c) (by omega) (by omega) (fun q2 => ?_) (fun q2 => ?_)
    · refine aw_96_133 ?_
      refine en_AW_drop [true, true, true, true, true, true, true, false] ?_
      have e := bw_f (E := E3) (p := p) (c := c) (n := i) (fun z => by first | exact absurd z.1 (by omega) | exact absurd z.2 (by assumption) | omega)
      refine en_AW_ls (congrArg (fun z_ : Int => ([some (.inr (.inr (1, 5, 0))), some (.inl ((p : Nat) : Int)), some (.inl c), some (.inl ((s_pl E3 p c : Nat) : Int)), some (.inl z_), some (.inl ((s_bw E3 p c i).2)), some (.inl (((i : Nat) : Int) + 1)), none] : AL)) (show (s_bw E3 p c i).1 = (s_bw E3 p c (i + 1)).1 from by rw [e])) ?_
      refine en_AW_ls (congrArg (fun z_ : Int => ([some (.inr (.inr (1, 5, 0))), some (.inl ((p : Nat) : Int)), some (.inl c), some (.inl ((s_pl E3 p c : Nat) : Int)), some (.inl ((s_bw E3 p c (i + 1)).1)), some (.inl z_), some (.inl (((i : Nat) : Int) + 1)), none] : AL)) (show (s_bw E3 p c i).2 = (s_bw E3 p c (i + 1)).2 from by rw [e])) ?_
      exact ih (i + 1) K (by omega) hI hI3 hF
    · by_cases c3 : s_can E3 p i = true
      · refine ⟨2, 0, by first | decide | omega, by first | decide | omega, en_Ct_t (X_canT hI hg hev (p := p) (i := i) (by omega) (by omega)) c3 ?_⟩
        refine br_eq_n (by decide) (by decide) (by decide) ?_
        refine ⟨p, rfl, (show p < 4 by omega), ?_⟩
        refine ⟨s_pl E3 p c, rfl, (show s_pl E3 p c < 5 by omega), ?_⟩
        have hT : isE (en_wI K (43 + 1 * p) (s_pl E3 p c) ((i : Nat) : Int)) 33 (bwT E3 p c (i : Int)) := by
          obtain ⟨t, ht⟩ := hI3
          have z := isE_ws ht (show p < 4 by omega) (s_pl E3 p c) (i : Int)
          unfold bwT at z ⊢
          rw [ups_ups] at z
          exact z
        have hgT := ok_bwT hg3 (p := p) (w := i) (by omega) hc (by omega) (by omega)
        have pb := pts_b (E := bwT E3 p c (i : Int)) (p := p) (c := -1) hgT (by omega)
        refine ⟨5, 0, by first | decide | omega, by first | decide | omega, en_Ct_mono (X_pitN (E := bwT E3 p c (i : Int)) hT hgT (p := p) hp) ?_⟩
        rintro _ K5 ⟨rfl, hfl, -⟩
        refine br_le (a := pts (bwT E3 p c (i : Int)) p (-1)) (b := (s_bw E3 p c i).2) (by omega) (by omega) (fun q6 => ?_) (fun q6 => ?_)
        · refine aw_96_133 ?_
          refine en_AW_drop [true, true, true, true, true, true, true, false] ?_
          have e := bw_f (E := E3) (p := p) (c := c) (n := i) (fun z => by first | exact absurd z.1 (by omega) | exact absurd z.2 (by assumption) | omega)
          refine en_AW_ls (congrArg (fun z_ : Int => ([some (.inr (.inr (1, 5, 0))), some (.inl ((p : Nat) : Int)), some (.inl c), some (.inl ((s_pl E3 p c : Nat) : Int)), some (.inl z_), some (.inl ((s_bw E3 p c i).2)), some (.inl (((i : Nat) : Int) + 1)), none] : AL)) (show (s_bw E3 p c i).1 = (s_bw E3 p c (i + 1)).1 from by rw [e])) ?_
          refine en_AW_ls (congrArg (fun z_ : Int => ([some (.inr (.inr (1, 5, 0))), some (.inl ((p : Nat) : Int)), some (.inl c), some (.inl ((s_pl E3 p c : Nat) : Int)), some (.inl ((s_bw E3 p c (i + 1)).1)), some (.inl z_), some (.inl (((i : Nat) : Int) + 1)), none] : AL)) (show (s_bw E3 p c i).2 = (s_bw E3 p c (i + 1)).2 from by rw [e])) ?_
          exact ih (i + 1) _ (by omega) (isE_fr hI (fun a h0 h1 => by rw [hfl.2 a (by omega), wI_ne (by omega)])) ⟨_, isE_fr hT (fun a h0 h1 => hfl.2 a (by omega))⟩ ⟨by rw [hfl.1]; exact hF.1, fun a ha => by rw [hfl.2 a (by omega), wI_ne (by omega)]; exact hF.2 a ha⟩
        · refine aw_96_133 ?_
          refine en_AW_drop [true, true, true, true, true, true, true, false] ?_
          have e := bw_t (E := E3) (p := p) (c := c) (n := i) ⟨by omega, by assumption⟩ (by omega)
          refine en_AW_ls (congrArg (fun z_ : Int => ([some (.inr (.inr (1, 5, 0))), some (.inl ((p : Nat) : Int)), some (.inl c), some (.inl ((s_pl E3 p c : Nat) : Int)), some (.inl z_), some (.inl (pts (bwT E3 p c (i : Int)) p (-1))), some (.inl (((i : Nat) : Int) + 1)), none] : AL)) (show ((i : Nat) : Int) = (s_bw E3 p c (i + 1)).1 from by rw [e])) ?_
          refine en_AW_ls (congrArg (fun z_ : Int => ([some (.inr (.inr (1, 5, 0))), some (.inl ((p : Nat) : Int)), some (.inl c), some (.inl ((s_pl E3 p c : Nat) : Int)), some (.inl ((s_bw E3 p c (i + 1)).1)), some (.inl z_), some (.inl (((i : Nat) : Int) + 1)), none] : AL)) (show pts (bwT E3 p c (i : Int)) p (-1) = (s_bw E3 p c (i + 1)).2 from by rw [e])) ?_
          exact ih (i + 1) _ (by omega) (isE_fr hI (fun a h0 h1 => by rw [hfl.2 a (by omega), wI_ne (by omega)])) ⟨_, isE_fr hT (fun a h0 h1 => hfl.2 a (by omega))⟩ ⟨by rw [hfl.1]; exact hF.1, fun a ha => by rw [hfl.2 a (by omega), wI_ne (by omega)]; exact hF.2 a ha⟩
      · refine ⟨2, 0, by first | decide | omega, by first | decide | omega, en_Ct_f (X_canT hI hg hev (p := p) (i := i) (by omega) (by omega)) c3 ?_⟩
        refine br_eq_y (by decide) (by decide) (by decide) ?_
        refine aw_96_133 ?_
        refine en_AW_drop [true, true, true, true, true, true, true, false] ?_
        have e := bw_f (E := E3) (p := p) (c := c) (n := i) (fun z => by first | exact absurd z.1 (by omega) | exact absurd z.2 (by assumption) | omega)
        refine en_AW_ls (congrArg (fun z_ : Int => ([some (.inr (.inr (1, 5, 0))), some (.inl ((p : Nat) : Int)), some (.inl c), some (.inl ((s_pl E3 p c : Nat) : Int)), some (.inl z_), some (.inl ((s_bw E3 p c i).2)), some (.inl (((i : Nat) : Int) + 1)), none] : AL)) (show (s_bw E3 p c i).1 = (s_bw E3 p c (i + 1)).1 from by rw [e])) ?_
        refine en_AW_ls (congrArg (fun z_ : Int => ([some (.inr (.inr (1, 5, 0))), some (.inl ((p : Nat) : Int)), some (.inl c), some (.inl ((s_pl E3 p c : Nat) : Int)), some (.inl ((s_bw E3 p c (i + 1)).1)), some (.inl z_), some (.inl (((i : Nat) : Int) + 1)), none] : AL)) (show (s_bw E3 p c i).2 = (s_bw E3 p c (i + 1)).2 from by rw [e])) ?_
        exact ih (i + 1) K (by omega) hI hI3 hF
def a_bestWord (E : Ev) (x : Int) (c : Int) : Nat × Int := if (0 ≤ x ∧ x < E.1 0 2) ∧ (0 ≤ c ∧ c < E.1 0 0) then (0, (s_bw E x.toNat c (E.1 0 1).toNat).1) else (1, -2)
theorem PX_bestWord (E : Ev) (M : Mm) (hI : isE M 1 E) (hg : s_ok E) (x : Int) (c : Int) (hx : -2147483648 ≤ x ∧ x < 2147483648) (hc : -2147483648 ≤ c ∧ c < 2147483648) : en_Ct 9 0 96 [.inr (.inr (1, 5, 0)), .inl x, .inl c] M (fun r M' => r = some (.inl (a_bestWord E x c).2) ∧ sX (aX M (a_bestWord E x c).1) M') := by
  obtain ⟨n0, n1, n2, a0, a1, a2, a3, a4, a5, a6, a7⟩ := hg.1
  have r0 : M.1 1 0 = E.1 0 0 := r0_I hI 0
  have r1 : M.1 1 1 = E.1 0 1 := r0_I hI 1
  have r2 : M.1 1 2 = E.1 0 2 := r0_I hI 2
  refine ct_96 rfl ?_
  refine aw_96_0 ?_
  by_cases c1 : 0 ≤ x ∧ x < E.1 0 2
  · refine ⟨2, 0, by first | decide | omega, by first | decide | omega, en_Ct_t (X_isPerson (M := M) (e := 1) (E := E) hI hg (x := x) (by omega)) c1 ?_⟩
    refine br_eq_n (by decide) (by decide) (by decide) ?_
    by_cases c3 : 0 ≤ c ∧ c < E.1 0 0
    · refine ⟨2, 0, by first | decide | omega, by first | decide | omega, en_Ct_t (X_isColumn (M := M) (e := 1) (E := E) hI hg (x := c) (by omega)) c3 ?_⟩
      refine br_ne_y (by decide) (by decide) (by decide) ?_
      obtain ⟨p, rfl⟩ := Int.eq_ofNat_of_zero_le (show 0 ≤ x by omega)
      refine aw_96_29 ?_
      refine ⟨1, 0, by first | decide | omega, by first | decide | omega, en_Ct_mono (R_be_33_1 M (fun i hi => by rw [show M.1 9 = E.1 8 from hI.1 8 (by decide)]; exact hg.2.2.2.2 i hi)) ?_⟩
      rintro _ N ⟨rfl, hN⟩
      obtain ⟨hev, hg3, hIN⟩ := th_ev hI hg hN
      have e00 := hev.1 0 (by decide)
      have e02 := hev.1 2 (by decide)
      refine ⟨1, 0, by first | decide | omega, by first | decide | omega, en_Ct_mono (X_op hg3 (p := p) (by omega) (c := c) (by omega)) ?_⟩
      rintro _ N' ⟨rfl, hfo, hT0⟩
      refine L_bwX E (vE N 33) N hg hev hg3 p c (by omega) (by omega) (fun K hK => ?_) (E.1 0 1).toNat 0 N' (by omega) (isE_fr hIN (fun a h0 h1 => hfo.2 a (by omega))) hT0 ⟨hfo.1, fun a ha => hfo.2 a (by omega)⟩
      have ha : a_bestWord E p c = (0, (s_bw (vE N 33) p c (E.1 0 1).toNat).1) := by
        unfold a_bestWord
        rw [if_pos (by omega), Int.toNat_natCast, ev_bw hev hg3 (by omega) (by omega) (E.1 0 1).toNat (by have := hev.1 1 (by decide); omega)]
      rw [ha]
      exact ⟨rfl, sX_33 hN hK⟩
    · refine ⟨2, 0, by first | decide | omega, by first | decide | omega, en_Ct_f (X_isColumn (M := M) (e := 1) (E := E) hI hg (x := c) (by omega)) c3 ?_⟩
      refine br_ne_n (by decide) (by decide) (by decide) ?_
      refine aw_96_22 ?_
      refine ⟨2, 0, by first | decide | omega, by first | decide | omega, en_Ct_eq (R_refX (-2) (by omega) M) ?_⟩
      have ha : a_bestWord E x c = (1, (-2)) := by
        unfold a_bestWord
        repeat first | rw [if_pos (by omega)] | rw [if_neg (by omega)]
        first | done | rfl | (rfl)
      rw [ha]
      exact ⟨rfl, sX_rfl⟩
  · refine ⟨2, 0, by first | decide | omega, by first | decide | omega, en_Ct_f (X_isPerson (M := M) (e := 1) (E := E) hI hg (x := x) (by omega)) c1 ?_⟩
    refine br_eq_y (by decide) (by decide) (by decide) ?_
    refine aw_96_22 ?_
    refine ⟨2, 0, by first | decide | omega, by first | decide | omega, en_Ct_eq (R_refX (-2) (by omega) M) ?_⟩
    have ha : a_bestWord E x c = (1, (-2)) := by
      unfold a_bestWord
      repeat first | rw [if_pos (by omega)] | rw [if_neg (by omega)]
      first | done | rfl | (rfl)
    rw [ha]
    exact ⟨rfl, sX_rfl⟩
theorem ea_bestWord {E F : Ev} (h : evs E F) (hg : s_ok E) {x : Int} {c : Int} : a_bestWord E x c = a_bestWord F x c := by
  have hb := hg.1.2.2.1
  have hw := hg.1.2.1
  unfold a_bestWord
  rw [← h.1 2 (by decide), ← h.1 0 (by decide), ← ev_ww h]
  split
  · rw [ev_bw h hg (by omega) (by omega) _ (by omega)]
  · rfl
