/-! the best sheet: the class's search -/
def secOf (E : Ev) (p : Nat) (l : List Nat) (t : Int) : Int := if l.length = (E.1 1 1).toNat then t else lim E p
theorem stp_eq {E : Ev} {p : Nat} {s : Int × Nat × Int} {l : List Nat} {t : Int} : stp E p s (l, t) = if s.1 < sm (gv E p (secOf E p l t)) l ∨ (sm (gv E p (secOf E p l t)) l = s.1 ∧ bts l < s.2.1) then (sm (gv E p (secOf E p l t)) l, bts l, secOf E p l t) else s := rfl
theorem smg_b {E : Ev} (hg : s_ok E) {p : Nat} {c : Int} {l : List Nat} (hl : l.length ≤ 5) : 0 ≤ sm (gv E p c) l ∧ sm (gv E p c) l ≤ 250 := by
  have h1 := sm_nn (g := gv E p c) l (fun w _ => (gv_b hg).1)
  have h2 := sm_len (g := gv E p c) (b := 50) l (fun w _ => (gv_b hg).2)
  omega
theorem sB_stp {E : Ev} (hg : s_ok E) {p : Nat} {s : Int × Nat × Int} {l : List Nat} {t : Int} (hs : sB s) (hl : l.length ≤ 5) (hw : ∀ w ∈ l, w < 24) : sB (stp E p s (l, t)) := by
  rw [stp_eq]
  split
  · exact ⟨smg_b hg hl, bts_lt l hw⟩
  · exact hs
theorem frW_rfl {M : Mm} : frW M M := ⟨fun _ _ => rfl, fun _ _ => rfl, rfl⟩
def wS (M : Mm) (v : Int) (b : Nat) (c : Int) : Mm := en_wI (en_wI (en_wI M 52 0 v) 52 1 ((b : Nat) : Int)) 52 2 c
theorem wS_fr {M : Mm} {v c : Int} {b : Nat} : frW M (wS M v b c) ∧ isS (wS M v b c) (v, b, c) := by
  refine ⟨⟨fun a ha => by unfold wS; rw [wI_ne ha, wI_ne ha, wI_ne ha], fun i hi => ?_, rfl⟩, ?_, ?_, ?_⟩
  · have h0 : ¬ i = 0 := by omega
    have h1 : ¬ i = 1 := by omega
    have h2 : ¬ i = 2 := by omega
    simp [wS, en_wI, h0, h1, h2]
  · simp [wS, en_wI]
  · simp [wS, en_wI]
  · simp [wS, en_wI]
theorem R_weigh (E : Ev) (M : Mm) (p : Nat) (hB : isBS M E p) (hg : s_ok E) (l : List Nat) (hl5 : l.length ≤ 5) (hch : chO M E p l) (hw24 : ∀ w ∈ l, w < 24) (t : Int) (ht : 0 ≤ t ∧ t ≤ 1000) (s : Int × Nat × Int) (hS : isS M s) (hs : sB s) : en_Ct 2 0 6 [.inr (.inr (1, 0, 52)), .inl ((l.length : Nat) : Int), .inl t, .inl ((bts l : Nat) : Int)] M (fun r M' => r = none ∧ frW M M' ∧ isS M' (stp E p s (l, t))) := by
  obtain ⟨n0, n1, n2, a0, a1, a2, a3, a4, a5, a6, a7⟩ := hg.1
  obtain ⟨⟨b3, b4, b5, b6, b7⟩, hLn, hCc, hOw⟩ := id hB
  have lb := lim_b hg (p := p)
  have ol := oth_len hg (p := p)
  have h14 := hOw.1
  have h8 := hLn.1
  have ll : (lin E p).length ≤ 24 := Nat.le_trans (lnp_len _) (by omega)
  obtain ⟨u0, u1, u2⟩ := id hS
  obtain ⟨y1, y2⟩ := id hs
  have bl24 := bts_lt l hw24
  refine ct_6 rfl ?_
  refine aw_6_0 ?_
  refine br_ne (a := ((l.length : Nat) : Int)) (b := M.1 52 3) (by omega) (by omega) (fun q1 => ?_) (fun q1 => ?_)
  · refine aw_6_12 ?_
    refine aw_6_16 ?_
    skip
    refine ⟨1, 0, by first | decide | omega, by first | decide | omega, en_Ct_eq (R_pa E M p hB hg l hl5 hch (M.1 52 4) (by omega)) ?_⟩
    have sb := smg_b hg (p := p) (c := M.1 52 4) (l := l) hl5
    refine br_gt (a := sm (gv E p (M.1 52 4)) l) (b := M.1 52 0) (by omega) (by omega) (fun q2 => ?_) (fun q2 => ?_)
    · refine aw_6_53 ?_
      refine aw_6_70 ?_
      have es : secOf E p l t = M.1 52 4 := by
        unfold secOf
        rw [if_neg (by omega)]; omega
      refine ⟨rfl, ?_⟩
      rw [stp_eq, es]
      rw [if_pos (by omega)]
      exact wS_fr
    · refine br_ne (a := sm (gv E p (M.1 52 4)) l) (b := M.1 52 0) (by omega) (by omega) (fun q3 => ?_) (fun q3 => ?_)
      · refine aw_6_70 ?_
        have es : secOf E p l t = M.1 52 4 := by
          unfold secOf
          rw [if_neg (by omega)]; omega
        refine ⟨rfl, ?_⟩
        rw [stp_eq, es]
        rw [if_neg (by omega)]
        exact ⟨frW_rfl, hS⟩
      · refine br_ge (a := ((bts l : Nat) : Int)) (b := M.1 52 1) (by omega) (by omega) (fun q4 => ?_) (fun q4 => ?_)
        · refine aw_6_70 ?_
          have es : secOf E p l t = M.1 52 4 := by
            unfold secOf
            rw [if_neg (by omega)]; omega
          refine ⟨rfl, ?_⟩
          rw [stp_eq, es]
          rw [if_neg (by omega)]
          exact ⟨frW_rfl, hS⟩
        · refine aw_6_53 ?_
          refine aw_6_70 ?_
          have es : secOf E p l t = M.1 52 4 := by
            unfold secOf
            rw [if_neg (by omega)]; omega
          refine ⟨rfl, ?_⟩
          rw [stp_eq, es]
          rw [if_pos (by omega)]
          exact wS_fr
  · refine aw_6_16 ?_
    skip
    refine ⟨1, 0, by first | decide | omega, by first | decide | omega, en_Ct_eq (R_pa E M p hB hg l hl5 hch t (by omega)) ?_⟩
    have sb := smg_b hg (p := p) (c := t) (l := l) hl5
    refine br_gt (a := sm (gv E p t) l) (b := M.1 52 0) (by omega) (by omega) (fun q5 => ?_) (fun q5 => ?_)
    · refine aw_6_53 ?_
      refine aw_6_70 ?_
      have es : secOf E p l t = t := by
        unfold secOf
        exact if_pos (by omega)
      refine ⟨rfl, ?_⟩
      rw [stp_eq, es]
      rw [if_pos (by omega)]
      exact wS_fr
    · refine br_ne (a := sm (gv E p t) l) (b := M.1 52 0) (by omega) (by omega) (fun q6 => ?_) (fun q6 => ?_)
      · refine aw_6_70 ?_
        have es : secOf E p l t = t := by
          unfold secOf
          exact if_pos (by omega)
        refine ⟨rfl, ?_⟩
        rw [stp_eq, es]
        rw [if_neg (by omega)]
        exact ⟨frW_rfl, hS⟩
      · refine br_ge (a := ((bts l : Nat) : Int)) (b := M.1 52 1) (by omega) (by omega) (fun q7 => ?_) (fun q7 => ?_)
        · refine aw_6_70 ?_
          have es : secOf E p l t = t := by
            unfold secOf
            exact if_pos (by omega)
          refine ⟨rfl, ?_⟩
          rw [stp_eq, es]
          rw [if_neg (by omega)]
          exact ⟨frW_rfl, hS⟩
        · refine aw_6_53 ?_
          refine aw_6_70 ?_
          have es : secOf E p l t = t := by
            unfold secOf
            exact if_pos (by omega)
          refine ⟨rfl, ?_⟩
          rw [stp_eq, es]
          rw [if_pos (by omega)]
          exact wS_fr
def frC (d : Nat) (M K : Mm) : Prop := (∀ a, a ≠ 52 → a ≠ 57 → K.1 a = M.1 a) ∧ (∀ i, 3 ≤ i → K.1 52 i = M.1 52 i) ∧ (∀ k, k < d → K.1 57 k = M.1 57 k) ∧ K.2 = M.2
theorem frC_rfl {d : Nat} {M : Mm} : frC d M M := ⟨fun _ _ _ => rfl, fun _ _ => rfl, fun _ _ => rfl, rfl⟩
theorem frC_tr {d : Nat} {M K K' : Mm} (h : frC d M K) (h' : frC d K K') : frC d M K' := ⟨fun a h1 h2 => (h'.1 a h1 h2).trans (h.1 a h1 h2), fun i hi => (h'.2.1 i hi).trans (h.2.1 i hi), fun k hk => (h'.2.2.1 k hk).trans (h.2.2.1 k hk), h'.2.2.2.trans h.2.2.2⟩
theorem frC_mono {d d' : Nat} {M K : Mm} (h : frC d M K) (hd : d' ≤ d) : frC d' M K := ⟨h.1, h.2.1, fun k hk => h.2.2.1 k (by omega), h.2.2.2⟩
theorem frW_C {d : Nat} {M K : Mm} (h : frW M K) : frC d M K := ⟨fun a h1 _ => h.1 a h1, h.2.1, fun k _ => by rw [h.1 57 (by decide)], h.2.2⟩
theorem frC_57 {d : Nat} {M : Mm} {x : Int} : frC d M (en_wI M 57 d x) := ⟨fun a _ h => wI_ne h, fun i _ => by rw [wI_ne (by decide)], fun k hk => by
  have : k ≠ d := by omega
  simp [en_wI, this], rfl⟩
theorem isBS_C {d : Nat} {M K : Mm} {E : Ev} {p : Nat} (h : isBS M E p) (hF : frC d M K) : isBS K E p := isBS_fr h hF.1 hF.2.1
theorem chO_C {d : Nat} {M K : Mm} {E : Ev} {p : Nat} {l : List Nat} (h : chO M E p l) (hF : frC d M K) (hl : l.length ≤ d) : chO K E p l := fun k hk => by
  rw [hF.2.2.1 k (by omega)]
  exact h k hk
theorem chO_57 {M : Mm} {E : Ev} {p i : Nat} {l : List Nat} (h : chO M E p l) (hi : i < (lin E p).length) : chO (en_wI M 57 l.length ((i : Nat) : Int)) E p (l ++ [(lin E p).getD i 0]) := fun k hk => by
  rw [List.length_append] at hk
  have hk' : k < l.length + 1 := hk
  by_cases hkl : k < l.length
  · obtain ⟨j, j1, j2, j3⟩ := h k hkl
    refine ⟨j, j1, ?_, ?_⟩
    · have : k ≠ l.length := by omega
      simp [en_wI, this, j2]
    · rw [j3, List.getD_eq_getElem?_getD, List.getD_eq_getElem?_getD, List.getElem?_append_left hkl]
  · have hke : k = l.length := by omega
    subst hke
    refine ⟨i, hi, by simp [en_wI], ?_⟩
    rw [List.getD_eq_getElem?_getD (l := l ++ _), List.getElem?_append_right (Nat.le_refl _), Nat.sub_self]
    rfl
theorem isS_C {M : Mm} {a i : Nat} {x : Int} {s : Int × Nat × Int} (h : isS M s) (ha : a ≠ 52) : isS (en_wI M a i x) s := by
  unfold isS
  rw [wI_ne (Ne.symm ha)]
  exact h
/-- columns taken -/
def cbt (E : Ev) (l : List Nat) : Nat := bts (l.map (fun w => (E.1 4 w).toNat))
theorem cbt_app {E : Ev} {l : List Nat} {w : Nat} : cbt E (l ++ [w]) = cbt E l ||| 2 ^ (E.1 4 w).toNat := by
  unfold cbt
  rw [List.map_append, bts_app]
  show _ ||| (2 ^ _ ||| 0) = _
  rw [Nat.or_zero]
theorem bts_snoc {l : List Nat} {w : Nat} : bts (l ++ [w]) = bts l ||| 2 ^ w := by
  rw [bts_app]
  show _ ||| (2 ^ _ ||| 0) = _
  rw [Nat.or_zero]
theorem cbt_all {E : Ev} {l : List Nat} {w : Nat} (hl : ∀ v ∈ l, 0 ≤ E.1 4 v) (hw : 0 ≤ E.1 4 w) : l.all (fun v => decide (E.1 4 v ≠ E.1 4 w)) = true ↔ cbt E l &&& 2 ^ (E.1 4 w).toNat = 0 := by
  rw [and_p]
  unfold cbt
  rw [bts_bit, decide_eq_true_eq, List.all_eq_true]
  constructor
  · intro h z
    obtain ⟨v, v1, v2⟩ := List.mem_map.mp z
    have h1 := of_decide_eq_true (p := E.1 4 v ≠ E.1 4 w) (h v v1)
    have := hl v v1
    omega
  · intro h v hv
    exact decide_eq_true (fun z => h (List.mem_map.mpr ⟨v, hv, by rw [z]⟩))
theorem drop_c {l : List Nat} {i : Nat} (h : i < l.length) : l.drop i = l.getD i 0 :: l.drop (i + 1) := by
  rw [List.drop_eq_getElem_cons h, List.getD_eq_getElem?_getD, List.getElem?_eq_getElem h]
  rfl
theorem L_ext {post : Option AV → Mm → Prop} (E : Ev) (p : Nat) (hg : s_ok E) (d : Nat) (pre : List Nat) (t : Int) (hpre : ∀ w ∈ pre, w ∈ lin E p) (hd : (E.1 1 1).toNat = pre.length + (d + 1)) (ht : 0 ≤ t ∧ t ≤ 74 * (pre.length : Int)) (hR : ∀ (M : Mm) (f : Nat) (t : Int) (pre : List Nat) (s : Int × Nat × Int), isBS M E p → chO M E p pre → (∀ w ∈ pre, w ∈ lin E p) → (E.1 1 1).toNat = pre.length + d → f ≤ (lin E p).length → (0 ≤ t ∧ t ≤ 74 * (pre.length : Int)) → isS M s → sB s → en_Ct (d + 3) 0 5 [.inr (.inr (1, 0, 52)), .inl ((pre.length : Nat) : Int), .inl ((f : Nat) : Int), .inl t, .inl ((cbt E pre : Nat) : Int), .inl ((bts pre : Nat) : Int)] M (fun r M' => r = none ∧ frC pre.length M M' ∧ isS M' ((exw E (lim E p) d ((lin E p).drop f) t pre).foldl (stp E p) s) ∧ sB ((exw E (lim E p) d ((lin E p).drop f) t pre).foldl (stp E p) s))) (M : Mm) (hB : isBS M E p) (hch : chO M E p pre) (f : Int) : ∀ (n : Nat) (i : Nat) (K : Mm) (s : Int × Nat × Int), (i + n = (lin E p).length) → (frC pre.length M K) → (isS K s) → (sB s) → (∀ K' : Mm, frC pre.length M K' → isS K' ((exw E (lim E p) (d + 1) ((lin E p).drop i) t pre).foldl (stp E p) s) → sB ((exw E (lim E p) (d + 1) ((lin E p).drop i) t pre).foldl (stp E p) s) → post none K') → en_AW (d + 4) 0 5 post 17 [some (.inr (.inr (1, 0, 52))), some (.inl ((pre.length : Nat) : Int)), some (.inl f), some (.inl t), some (.inl ((cbt E pre : Nat) : Int)), some (.inl ((bts pre : Nat) : Int)), some (.inl ((i : Nat) : Int)), none, none] [] K 0 := by
  intro n
  induction n with
  | zero =>
    intro i K s hi hF hS hs hx
    obtain ⟨n0, n1, n2, a0, a1, a2, a3, a4, a5, a6, a7⟩ := hg.1
    have lb := lim_b hg (p := p)
    have ll : (lin E p).length ≤ 24 := Nat.le_trans (lnp_len _) (by omega)
    have hBK : isBS K E p := isBS_C hB hF
    have hchK : chO K E p pre := chO_C hch hF (Nat.le_refl _)
    obtain ⟨⟨b3, b4, b5, b6, b7⟩, hLn, hCc, hOw⟩ := id hBK
    have h8 := hLn.1
    refine aw_5_17 ?_
    refine br_ge_y (a := ((i : Nat) : Int)) (b := K.1 52 8) (by omega) (by omega) (by omega) ?_
    refine aw_5_124 ?_
    have e : exw E (lim E p) (d + 1) ((lin E p).drop i) t pre = [] := by rw [List.drop_of_length_le (by omega), exw_nil]
    rw [e] at hx
    exact hx K hF hS hs
  | succ n ih =>
    intro i K s hi hF hS hs hx
    obtain ⟨n0, n1, n2, a0, a1, a2, a3, a4, a5, a6, a7⟩ := hg.1
    have lb := lim_b hg (p := p)
    have ll : (lin E p).length ≤ 24 := Nat.le_trans (lnp_len _) (by omega)
    have hBK : isBS K E p := isBS_C hB hF
    have hchK : chO K E p pre := chO_C hch hF (Nat.le_refl _)
    obtain ⟨⟨b3, b4, b5, b6, b7⟩, hLn, hCc, hOw⟩ := id hBK
    have h8 := hLn.1
    obtain ⟨l53, l54⟩ := hLn.2 i (by omega)
    obtain ⟨c55, c56⟩ := hCc i (by omega)
    generalize hwd : (lin E p).getD i 0 = w at l53 l54 c55 c56
    have hwm : w ∈ lin E p := by rw [← hwd]; exact getD_mem (by omega)
    have hm := lin_mem.mp hwm
    have cb := s_cost_b (hg.2.1 w (by omega))
    have c4 := (hg.2.1 w (by omega)).2.2.1
    have hprec : ∀ v ∈ pre, (v : Int) < E.1 0 1 := fun v hv => by
      have := (lin_mem.mp (hpre v hv)).1
      omega
    have hpre1 : ∀ v ∈ pre ++ [w], v ∈ lin E p := fun v hv => by
      rcases List.mem_append.mp hv with z | z
      · exact hpre v z
      · rw [List.mem_singleton] at z
        rw [z]; exact hwm
    have hlen1 : (pre ++ [w]).length = pre.length + 1 := by rw [List.length_append]; rfl
    have hlen5 : (pre ++ [w]).length ≤ 5 := by rw [hlen1]; omega
    have hw24 : ∀ v ∈ pre ++ [w], v < 24 := fun v hv => by
      have := (lin_mem.mp (hpre1 v hv)).1
      omega
    have bp : bts pre < 2 ^ 24 := bts_lt pre (fun v hv => hw24 v (List.mem_append.mpr (Or.inl hv)))
    have cp : cbt E pre < 2 ^ 24 := bts_lt _ (fun v hv => by
      obtain ⟨x, x1, x2⟩ := List.mem_map.mp hv
      have := (hg.2.1 x (hprec x x1)).2.2.1
      omega)
    have h2c : (2 : Nat) ^ (E.1 4 w).toNat < 2 ^ 24 := Nat.pow_lt_pow_right (by decide) (by omega)
    have hall := cbt_all (E := E) (l := pre) (w := w) (fun v hv => (hg.2.1 v (hprec v hv)).2.2.1.1) c4.1
    have eand : en_and ((cbt E pre : Nat) : Int) (K.1 55 i) = ((cbt E pre &&& 2 ^ (E.1 4 w).toNat : Nat) : Int) := by rw [c55]; exact nu_and (by omega) (by omega)
    have hand : cbt E pre &&& 2 ^ (E.1 4 w).toNat < 2 ^ 24 := Nat.and_lt_two_pow _ h2c
    have eor : en_or ((cbt E pre : Nat) : Int) (K.1 55 i) = ((cbt E (pre ++ [w]) : Nat) : Int) := by rw [c55, nu_or (by omega) (by omega), cbt_app]
    have eset : en_or ((bts pre : Nat) : Int) (en_shl 1 (K.1 53 i)) = ((bts (pre ++ [w]) : Nat) : Int) := by
      rw [l53, nu_orset (by omega) (by omega) (by omega), bts_snoc, Int.toNat_natCast]
    have edr := drop_c (l := lin E p) (i := i) (by omega)
    rw [hwd] at edr
    have hex := exw_s (E := E) (L := lim E p) (t := t) (d := d) (w := w) (r := (lin E p).drop (i + 1)) (pre := pre)
    rw [← edr] at hex
    refine aw_5_17 ?_
    refine br_ge_n (a := ((i : Nat) : Int)) (b := K.1 52 8) (by omega) (by omega) (by omega) ?_
    refine ⟨i, rfl, (show i < 24 by omega), ?_⟩
    refine br_le (a := t + (K.1 54 i)) (b := K.1 52 4) (by omega) (by omega) (fun q2 => ?_) (fun q2 => ?_)
    · have ht7 : t + K.1 54 i = t + s_cost E w := by rw [l54]
      have hle : ¬ lim E p < t + s_cost E w := by omega
      rw [if_neg hle] at hex
      refine aw_5_47 ?_
      refine ⟨i, rfl, (show i < 24 by omega), ?_⟩
      refine br_ne (a := en_and ((cbt E pre : Nat) : Int) (K.1 55 i)) (b := 0) (by omega) (by omega) (fun q => ?_) (fun q => ?_)
      · rw [if_neg (fun z => by have := hall.mp z; omega), List.nil_append] at hex
        refine aw_5_118 ?_
        refine en_AW_drop [true, true, true, true, true, true, true, false, false] ?_
        exact ih (i + 1) K s (by omega) hF hS hs (by rw [hex] at hx; exact hx)
      · rw [if_pos (hall.mpr (by omega))] at hex
        refine ⟨i, rfl, (show i < 24 by omega), ?_⟩
        refine ⟨pre.length, rfl, (show pre.length < 5 by omega), ?_⟩
        have hB1 : isBS (en_wI K 57 pre.length ((i : Nat) : Int)) E p := isBS_C hBK (frC_57 (d := pre.length))
        have hch1 : chO (en_wI K 57 pre.length ((i : Nat) : Int)) E p (pre ++ [w]) := by
          have z := chO_57 hchK (i := i) (by omega)
          rw [hwd] at z
          exact z
        have hc1 : en_Ct 2 0 6 [.inr (.inr (1, 0, 52)), .inl (((pre.length : Nat) : Int) + 1), .inl (t + K.1 54 i), .inl (en_or ((bts pre : Nat) : Int) (en_shl 1 (K.1 53 i)))] (en_wI K 57 pre.length ((i : Nat) : Int)) (fun r M' => r = none ∧ frW (en_wI K 57 pre.length ((i : Nat) : Int)) M' ∧ isS M' (stp E p s (pre ++ [w], t + s_cost E w))) := by
          rw [ht7, eset, show ((pre.length : Nat) : Int) + 1 = (((pre ++ [w]).length : Nat) : Int) by rw [hlen1]; rfl]
          exact R_weigh E _ p hB1 hg (pre ++ [w]) hlen5 hch1 hw24 (t + s_cost E w) (by omega) s (isS_C hS (by decide)) hs
        refine ⟨2, 0, by first | decide | omega, by first | decide | omega, en_Ct_mono hc1 ?_⟩
        rintro _ K1 ⟨rfl, hW1, hS1⟩
        have hs1 := sB_stp hg (p := p) (t := t + s_cost E w) hs hlen5 hw24
        refine ⟨i, rfl, (show i < 24 by omega), ?_⟩
        have e55 : K1.1 55 = K.1 55 := by rw [hW1.1 55 (by decide), wI_ne (by decide)]
        have hc2 : en_Ct (d + 3) 0 5 [.inr (.inr (1, 0, 52)), .inl (((pre.length : Nat) : Int) + 1), .inl (((i : Nat) : Int) + 1), .inl (t + K.1 54 i), .inl (en_or ((cbt E pre : Nat) : Int) (K1.1 55 i)), .inl (en_or ((bts pre : Nat) : Int) (en_shl 1 (K.1 53 i)))] K1 (fun r M' => r = none ∧ frC (pre ++ [w]).length K1 M' ∧ isS M' ((exw E (lim E p) d ((lin E p).drop (i + 1)) (t + s_cost E w) (pre ++ [w])).foldl (stp E p) (stp E p s (pre ++ [w], t + s_cost E w))) ∧ sB ((exw E (lim E p) d ((lin E p).drop (i + 1)) (t + s_cost E w) (pre ++ [w])).foldl (stp E p) (stp E p s (pre ++ [w], t + s_cost E w)))) := by
          rw [ht7, eset, e55, eor, show ((pre.length : Nat) : Int) + 1 = (((pre ++ [w]).length : Nat) : Int) by rw [hlen1]; rfl, show ((i : Nat) : Int) + 1 = ((i + 1 : Nat) : Int) by rfl]
          exact hR K1 (i + 1) (t + s_cost E w) (pre ++ [w]) _ (isBS_C hB1 (frW_C (d := 0) hW1)) (chO_C hch1 (frW_C (d := (pre ++ [w]).length) hW1) (Nat.le_refl _)) hpre1 (by rw [hlen1]; omega) (by omega) (by rw [hlen1]; omega) hS1 hs1
        refine ⟨d + 3, 0, by omega, by omega, en_Ct_mono hc2 ?_⟩
        rintro _ K2 ⟨rfl, hF2, hS2, hs2⟩
        refine aw_5_118 ?_
        refine en_AW_drop [true, true, true, true, true, true, true, false, false] ?_
        refine ih (i + 1) K2 _ (by omega) (frC_tr hF (frC_tr (frC_57 (d := pre.length)) (frC_tr (frW_C hW1) (frC_mono hF2 (by rw [hlen1]; omega))))) hS2 hs2 ?_
        rw [hex, List.foldl_append, List.foldl_cons] at hx
        exact hx
    · rw [if_pos (by omega)] at hex
      rw [hex] at hx
      exact hx K hF hS hs
theorem R_ext (E : Ev) (p : Nat) (hg : s_ok E) : ∀ (d : Nat) (M : Mm) (f : Nat) (t : Int) (pre : List Nat) (s : Int × Nat × Int), isBS M E p → chO M E p pre → (∀ w ∈ pre, w ∈ lin E p) → (E.1 1 1).toNat = pre.length + d → f ≤ (lin E p).length → (0 ≤ t ∧ t ≤ 74 * (pre.length : Int)) → isS M s → sB s → en_Ct (d + 3) 0 5 [.inr (.inr (1, 0, 52)), .inl ((pre.length : Nat) : Int), .inl ((f : Nat) : Int), .inl t, .inl ((cbt E pre : Nat) : Int), .inl ((bts pre : Nat) : Int)] M (fun r M' => r = none ∧ frC pre.length M M' ∧ isS M' ((exw E (lim E p) d ((lin E p).drop f) t pre).foldl (stp E p) s) ∧ sB ((exw E (lim E p) d ((lin E p).drop f) t pre).foldl (stp E p) s)) := by
  intro d
  induction d with
  | zero =>
    intro M f t pre s hB hch hpre hd hf ht hS hs
    have n5 := hg.1.2.2.2.2.1
    have b3 := hB.1.1
    refine ct_5 rfl ?_
    refine aw_5_0 ?_
    refine br_ge_y (a := ((pre.length : Nat) : Int)) (b := M.1 52 3) (by omega) (by omega) (by omega) ?_
    refine aw_5_13 ?_
    rw [exw_0]
    exact ⟨rfl, frC_rfl, hS, hs⟩
  | succ d ih =>
    intro M f t pre s hB hch hpre hd hf ht hS hs
    have n5 := hg.1.2.2.2.2.1
    have b3 := hB.1.1
    refine ct_5 rfl ?_
    refine aw_5_0 ?_
    refine br_ge_n (a := ((pre.length : Nat) : Int)) (b := M.1 52 3) (by omega) (by omega) (by omega) ?_
    refine br_lt_y (a := ((pre.length : Nat) : Int)) (b := 5) (by omega) (by omega) (by omega) ?_
    refine aw_5_14 ?_
    exact L_ext E p hg d pre t hpre (by omega) ht ih M hB hch ((f : Nat) : Int) ((lin E p).length - f) f M s (by omega) frC_rfl hS hs (fun K h1 h2 h3 => ⟨rfl, h1, h2, h3⟩)
