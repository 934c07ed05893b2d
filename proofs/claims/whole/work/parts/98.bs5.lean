/-- the others' words, as far as they are told -/
def isOw (K : Mm) (E : Ev) (o : List (Nat × Int)) : Prop := K.1 52 14 = ((o.length : Nat) : Int) ∧ ∀ k, k < o.length → K.1 58 k = ((2 ^ (o.getD k (0, 0)).1 : Nat) : Int) ∧ K.1 59 k = ((2 ^ (E.1 4 (o.getD k (0, 0)).1).toNat : Nat) : Int) ∧ K.1 60 k = (o.getD k (0, 0)).2
theorem getD_app {o : List (Nat × Int)} {x : Nat × Int} {k : Nat} (h : k < o.length + 1) : (o ++ [x]).getD k (0, 0) = if k < o.length then o.getD k (0, 0) else x := by
  rw [List.getD_eq_getElem?_getD]
  by_cases h1 : k < o.length
  · rw [if_pos h1, List.getElem?_append_left h1, List.getD_eq_getElem?_getD]
  · rw [if_neg h1, List.getElem?_append_right (by omega), show k - o.length = 0 by omega]
    rfl
theorem fl_t {E : Ev} {w : Nat} {t : Int} {r : List (Nat × Int)} (h : s_vote E w = true) : ((w, t) :: r).filter (fun x => s_vote E x.1) = (w, t) :: r.filter (fun x => s_vote E x.1) := List.filter_cons_of_pos (p := fun x : Nat × Int => s_vote E x.1) h
theorem fl_f {E : Ev} {w : Nat} {t : Int} {r : List (Nat × Int)} (h : ¬ s_vote E w = true) : ((w, t) :: r).filter (fun x => s_vote E x.1) = r.filter (fun x => s_vote E x.1) := List.filter_cons_of_neg (p := fun x : Nat × Int => s_vote E x.1) h
/-- the watcher leaves the line alone -/
def frO (M K : Mm) : Prop := (∀ a, a ≠ 52 → a ≠ 58 → a ≠ 59 → a ≠ 60 → K.1 a = M.1 a) ∧ (∀ i, i ≠ 4 → i ≠ 14 → K.1 52 i = M.1 52 i) ∧ K.2 = M.2
theorem frO_rfl {M : Mm} : frO M M := ⟨fun _ _ _ _ _ => rfl, fun _ _ _ => rfl, rfl⟩
theorem frO_tr {M K K' : Mm} (h : frO M K) (h' : frO K K') : frO M K' := ⟨fun a h1 h2 h3 h4 => (h'.1 a h1 h2 h3 h4).trans (h.1 a h1 h2 h3 h4), fun i h1 h2 => (h'.2.1 i h1 h2).trans (h.2.1 i h1 h2), h'.2.2.trans h.2.2⟩
theorem isE_O {M K : Mm} {e : Nat} {E : Ev} (h : isE M e E) (hF : frO M K) (he : e + 16 ≤ 49) : isE K e E := isE_fr h (fun a h0 h1 => hF.1 a (by omega) (by omega) (by omega) (by omega))
theorem L_watch {post : Option AV → Mm → Prop} (e : Nat) (E : Ev) (M : Mm) (hE : isE M e E) (hg : s_ok E) (he : e + 16 ≤ 49) (q : Nat) (hq4 : q < 4) (v4 : Int) : ∀ (n : Nat) (i : Nat) (K : Mm) (t : Int) (o : List (Nat × Int)), (((i : Nat) : Int) + ((n : Nat) : Int) = E.1 14 q) → (frO M K) → (K.1 52 4 = v4) → (isOw K E o) → (o.length + n ≤ 20) → (∀ K' : Mm, frO M K' → K'.1 52 4 = v4 → isOw K' E (o ++ (ws_ (s_can E q) (s_cost E) (shl (E.2 q) i n) t).filter (fun x => s_vote E x.1)) → post none K') → en_AW 3 0 4 post 5 [some (.inr (.inr (1, 0, 52))), some (.inr (.inr (1, 1, e))), some (.inl ((q : Nat) : Int)), some (.inl t), some (.inl ((i : Nat) : Int)), none] [] K 0 := by
  intro n
  induction n with
  | zero =>
    intro i K t o hi hF h4 hO ho hx
    obtain ⟨n0, n1, n2, a0, a1, a2, a3, a4, a5, a6, a7⟩ := hg.1
    have hI : isE K e E := isE_O hE hF he
    have k0 := r0_I hI 0
    have k1 := r0_I hI 1
    have k2 := r0_I hI 2
    have e14 : K.1 (e + 14) q = E.1 14 q := congrFun (hI.1 14 (by decide)) q
    have s1 := (hg.2.2.1 q hq4).1
    refine aw_4_5 ?_
    refine ⟨q, rfl, (show q < 4 by omega), ?_⟩
    refine br_ge_y (a := ((i : Nat) : Int)) (b := K.1 (e + 14) q) (by omega) (by omega) (by omega) ?_
    refine aw_4_124 ?_
    refine hx K hF h4 ?_
    rw [shl, ws_, List.filter_nil, List.append_nil]
    exact hO
  | succ n ih =>
    intro i K t o hi hF h4 hO ho hx
    obtain ⟨n0, n1, n2, a0, a1, a2, a3, a4, a5, a6, a7⟩ := hg.1
    have hI : isE K e E := isE_O hE hF he
    have k0 := r0_I hI 0
    have k1 := r0_I hI 1
    have k2 := r0_I hI 2
    have e14q : K.1 (e + 14) q = E.1 14 q := congrFun (hI.1 14 (by decide)) q
    obtain ⟨s1, s2⟩ := hg.2.2.1 q hq4
    have er : K.1 (e + 9 + 1 + 1 * q) = E.2 q := hI.2 q hq4
    obtain ⟨x0, x1⟩ := s2 i (by omega)
    rw [← er] at x0 x1
    have h14 := hO.1
    have e14 : (K.1 52 14).toNat = o.length := by omega
    have k4 : K.1 (e + 4) = E.1 4 := hI.1 4 (by decide)
    have c4 := (hg.2.1 (E.2 q i).toNat (by rw [← er]; omega)).2.2.1
    have esw : en_shl 1 (K.1 (e + 9 + 1 + 1 * q) i) = ((2 ^ (E.2 q i).toNat : Nat) : Int) := by
      rw [er]
      rw [er] at x0 x1
      have := nu_shl1 (E.2 q i).toNat (by omega)
      rw [show (((E.2 q i).toNat : Nat) : Int) = E.2 q i by omega] at this
      exact this
    have esc : en_shl 1 (K.1 (e + 4) (K.1 (e + 9 + 1 + 1 * q) i).toNat) = ((2 ^ (E.1 4 (E.2 q i).toNat).toNat : Nat) : Int) := by
      rw [k4, er]
      have := nu_shl1 (E.1 4 (E.2 q i).toNat).toNat (by omega)
      rw [show (((E.1 4 (E.2 q i).toNat).toNat : Nat) : Int) = E.1 4 (E.2 q i).toNat by omega] at this
      exact this
    refine aw_4_5 ?_
    refine ⟨q, rfl, (show q < 4 by omega), ?_⟩
    refine br_ge_n (a := ((i : Nat) : Int)) (b := K.1 (e + 14) q) (by omega) (by omega) (by omega) ?_
    refine ⟨q, rfl, (show q < 4 by omega), ?_⟩
    refine ⟨i, rfl, (show i < 5 by omega), ?_⟩
    by_cases c2 : s_can E q ((K.1 (e + 9 + 1 + 1 * q) i).toNat) = true
    · refine ⟨2, 0, by first | decide | omega, by first | decide | omega, en_Ct_t (W_can (e := e) (E := E) (M := K) hI hg (p := q) (x := (K.1 (e + 9 + 1 + 1 * q) i)) (by omega) (by omega) (by omega)) c2 ?_⟩
      refine br_eq_n (by decide) (by decide) (by decide) ?_
      refine ⟨1, 0, by first | decide | omega, by first | decide | omega, en_Ct_eq (W_cost (e := e) (E := E) (M := K) hI hg (x := (K.1 (e + 9 + 1 + 1 * q) i)) (by omega) (by omega)) ?_⟩
      have cb4 := s_cost_b (hg.2.1 ((K.1 (e + 9 + 1 + 1 * q) i).toNat) (by omega))
      by_cases c5 : s_vote E ((K.1 (e + 9 + 1 + 1 * q) i).toNat) = true
      · refine ⟨2, 0, by first | decide | omega, by first | decide | omega, en_Ct_t (W_vote (e := e) (E := E) (M := K) hI hg (x := (K.1 (e + 9 + 1 + 1 * q) i)) (by omega) (by omega)) c5 ?_⟩
        refine br_eq_n (by decide) (by decide) (by decide) ?_
        refine br_ge (a := K.1 52 14) (b := ((20 : Nat) : Int)) (by omega) (by omega) (fun q7 => ?_) (fun q7 => ?_)
        · refine aw_4_118 ?_
          first
            | exfalso
              omega
            | refine en_AW_drop [true, true, true, true, true, false] ?_
              have ew : (K.1 (e + 9 + 1 + 1 * q) i).toNat = (E.2 q i).toNat := by rw [er]
              have ecan : s_can E q (E.2 q i).toNat = true := by rw [← ew]; assumption
              refine ih (i + 1) K _ o (by omega) hF h4 hO (by omega) ?_
              rw [shl, ws_, if_pos ecan, fl_f (show ¬ s_vote E (E.2 q i).toNat = true by rw [← ew]; assumption), ← ew] at hx
              exact hx
        · refine ⟨(K.1 52 14).toNat, it_nn (x := K.1 52 14) (by omega), (show (K.1 52 14).toNat < 20 by omega), ?_⟩
          refine ⟨(K.1 (e + 9 + 1 + 1 * q) i).toNat, it_nn (x := K.1 (e + 9 + 1 + 1 * q) i) (by omega), (show (K.1 (e + 9 + 1 + 1 * q) i).toNat < 24 by omega), ?_⟩
          refine ⟨(K.1 52 14).toNat, it_nn (x := K.1 52 14) (by omega), (show (K.1 52 14).toNat < 20 by omega), ?_⟩
          refine ⟨(K.1 52 14).toNat, it_nn (x := K.1 52 14) (by omega), (show (K.1 52 14).toNat < 20 by omega), ?_⟩
          refine aw_4_118 ?_
          refine en_AW_drop [true, true, true, true, true, false] ?_
          have ew : (K.1 (e + 9 + 1 + 1 * q) i).toNat = (E.2 q i).toNat := by rw [er]
          have ecan : s_can E q (E.2 q i).toNat = true := by rw [← ew]; assumption
          refine en_AW_M (M1 := en_wI (en_wI (en_wI (en_wI K 58 o.length ((2 ^ (E.2 q i).toNat : Nat) : Int)) 59 o.length ((2 ^ (E.1 4 (E.2 q i).toNat).toNat : Nat) : Int)) 60 o.length (t + s_cost E (K.1 (e + 9 + 1 + 1 * q) i).toNat)) 52 14 (((o.length : Nat) : Int) + 1)) ?_ ?_
          · show en_wI (en_wI (en_wI (en_wI K 58 (K.1 52 14).toNat (en_shl 1 (K.1 (e + 9 + 1 + 1 * q) i))) 59 (K.1 52 14).toNat (en_shl 1 ((en_wI K 58 (K.1 52 14).toNat (en_shl 1 (K.1 (e + 9 + 1 + 1 * q) i))).1 (e + 4) (K.1 (e + 9 + 1 + 1 * q) i).toNat))) 60 (K.1 52 14).toNat (t + s_cost E (K.1 (e + 9 + 1 + 1 * q) i).toNat)) 52 14 (K.1 52 14 + 1) = _
            rw [wI_ne (show e + 4 ≠ 58 by omega), esw, esc, e14, h14]
          refine ih (i + 1) _ _ (o ++ [((E.2 q i).toNat, t + s_cost E (K.1 (e + 9 + 1 + 1 * q) i).toNat)]) (by omega) ⟨fun a z1 z2 z3 z4 => ?_, fun j z1 z2 => ?_, hF.2.2⟩ ?_ ⟨?_, fun k hk => ?_⟩ (by rw [List.length_append]; simp only [List.length_cons, List.length_nil]; omega) ?_
          · rw [wI_ne z1, wI_ne z4, wI_ne z3, wI_ne z2]
            exact hF.1 a z1 z2 z3 z4
          · have e1 : ∀ N : Mm, ∀ x : Int, (en_wI N 52 14 x).1 52 j = N.1 52 j := fun N x => by simp [en_wI, z2]
            rw [e1, wI_ne (by decide), wI_ne (by decide), wI_ne (by decide)]
            exact hF.2.1 j z1 z2
          · have e1 : ∀ N : Mm, ∀ x : Int, (en_wI N 52 14 x).1 52 4 = N.1 52 4 := fun N x => by simp [en_wI]
            rw [e1, wI_ne (by decide), wI_ne (by decide), wI_ne (by decide)]
            exact h4
          · rw [List.length_append]
            simp [en_wI]
          · rw [List.length_append] at hk
            have hk2 : k < o.length + 1 := hk
            rw [getD_app hk2]
            by_cases z : k < o.length
            · have e1 : ¬ k = o.length := by omega
              have := hO.2 k z
              rw [if_pos z]
              simp only [en_wI]
              simp [e1, this.1, this.2.1, this.2.2]
            · have e1 : k = o.length := by omega
              subst e1
              rw [if_neg z]
              simp only [en_wI]
              simp
          · rw [shl, ws_, if_pos ecan, fl_t (show s_vote E (E.2 q i).toNat = true by rw [← ew]; assumption)] at hx
            rw [List.append_assoc, ew]
            exact hx
      · refine ⟨2, 0, by first | decide | omega, by first | decide | omega, en_Ct_f (W_vote (e := e) (E := E) (M := K) hI hg (x := (K.1 (e + 9 + 1 + 1 * q) i)) (by omega) (by omega)) c5 ?_⟩
        refine br_eq_y (by decide) (by decide) (by decide) ?_
        refine aw_4_118 ?_
        first
          | exfalso
            omega
          | refine en_AW_drop [true, true, true, true, true, false] ?_
            have ew : (K.1 (e + 9 + 1 + 1 * q) i).toNat = (E.2 q i).toNat := by rw [er]
            have ecan : s_can E q (E.2 q i).toNat = true := by rw [← ew]; assumption
            refine ih (i + 1) K _ o (by omega) hF h4 hO (by omega) ?_
            rw [shl, ws_, if_pos ecan, fl_f (show ¬ s_vote E (E.2 q i).toNat = true by rw [← ew]; assumption), ← ew] at hx
            exact hx
    · refine ⟨2, 0, by first | decide | omega, by first | decide | omega, en_Ct_f (W_can (e := e) (E := E) (M := K) hI hg (p := q) (x := (K.1 (e + 9 + 1 + 1 * q) i)) (by omega) (by omega) (by omega)) c2 ?_⟩
      refine br_eq_y (by decide) (by decide) (by decide) ?_
      refine aw_4_118 ?_
      refine en_AW_drop [true, true, true, true, true, false] ?_
      have ew : (K.1 (e + 9 + 1 + 1 * q) i).toNat = (E.2 q i).toNat := by rw [er]
      refine ih (i + 1) K t o (by omega) hF h4 hO (by omega) ?_
      rw [shl, ws_, if_neg (by rw [← ew]; assumption)] at hx
      exact hx
theorem R_watch (e : Nat) (E : Ev) (M : Mm) (hE : isE M e E) (hg : s_ok E) (he : e + 16 ≤ 49) (q : Nat) (hq4 : q < 4) (o : List (Nat × Int)) (hO : isOw M E o) (ho : o.length ≤ 15) : en_Ct 3 0 4 [.inr (.inr (1, 0, 52)), .inr (.inr (1, 1, e)), .inl ((q : Nat) : Int)] M (fun r M' => r = none ∧ frO M M' ∧ M'.1 52 4 = M.1 52 4 ∧ isOw M' E (o ++ owq E q)) := by
  have s1 := (hg.2.2.1 q hq4).1
  refine ct_4 rfl ?_
  refine aw_4_0 ?_
  exact L_watch e E M hE hg he q hq4 (M.1 52 4) (E.1 14 q).toNat 0 M 0 o (by omega) frO_rfl rfl hO (by omega) (fun K h1 h2 h3 => ⟨rfl, h1, h2, h3⟩)
theorem ws_len {can : Nat → Bool} {cost : Nat → Int} : ∀ (l : List Nat) (t : Int), (ws_ can cost l t).length ≤ l.length
  | [], _ => by simp [ws_]
  | w :: r, t => by
    unfold ws_
    split
    · have := ws_len (can := can) (cost := cost) r (t + cost w)
      rw [List.length_cons, List.length_cons]
      omega
    · have := ws_len (can := can) (cost := cost) r t
      rw [List.length_cons]
      omega
theorem owl_len {E : Ev} (hg : s_ok E) {p : Nat} : ∀ n, n ≤ 4 → (owl E p n).length ≤ 5 * n
  | 0, _ => Nat.le_refl 0
  | n + 1, h => by
    have ih := owl_len hg (p := p) n (by omega)
    unfold owl
    split
    · omega
    · rw [List.length_append]
      have h1 : (owq E n).length ≤ (ws_ (s_can E n) (s_cost E) (s_shl E n) 0).length := List.length_filter_le _ _
      have h2 := ws_len (can := s_can E n) (cost := s_cost E) (s_shl E n) 0
      have h3 := shl_le5 hg (p := n) (by omega)
      omega
theorem isOw_4 {K : Mm} {E : Ev} {o : List (Nat × Int)} {x : Int} (h : isOw K E o) : isOw (en_wI K 52 4 x) E o := by
  unfold isOw at h ⊢
  have h58 : (en_wI K 52 4 x).1 58 = K.1 58 := wI_ne (by decide)
  have h59 : (en_wI K 52 4 x).1 59 = K.1 59 := wI_ne (by decide)
  have h60 : (en_wI K 52 4 x).1 60 = K.1 60 := wI_ne (by decide)
  have h14 : (en_wI K 52 4 x).1 52 14 = K.1 52 14 := by simp [en_wI]
  rw [h58, h59, h60, h14]
  exact h
theorem frO_4 {M K : Mm} {x : Int} (h : frO M K) : frO M (en_wI K 52 4 x) := ⟨fun a z1 z2 z3 z4 => by rw [wI_ne z1]; exact h.1 a z1 z2 z3 z4, fun i z1 z2 => by
  have : (en_wI K 52 4 x).1 52 i = K.1 52 i := by simp [en_wI, z1]
  rw [this]
  exact h.2.1 i z1 z2, h.2.2⟩
theorem L_wo {post : Option AV → Mm → Prop} (e : Nat) (E : Ev) (M : Mm) (hE : isE M e E) (hg : s_ok E) (he : e + 16 ≤ 49) (p : Nat) (hp : p < 4) (hx : ∀ K : Mm, frO M K → K.1 52 4 = lim E p → isOw K E (oth E p) → post none K) : ∀ (n : Nat) (i : Nat) (K : Mm), (((i : Nat) : Int) + ((n : Nat) : Int) = E.1 0 2) → (frO M K) → (K.1 52 4 = lmp E p i) → (isOw K E (owl E p i)) → en_AW 4 0 3 post 17 [some (.inr (.inr (1, 0, 52))), some (.inr (.inr (1, 1, e))), some (.inl ((p : Nat) : Int)), some (.inl ((i : Nat) : Int))] [] K 0 := by
  intro n
  induction n with
  | zero =>
    intro i K hi hF h4 hO
    obtain ⟨n0, n1, n2, a0, a1, a2, a3, a4, a5, a6, a7⟩ := hg.1
    have hI : isE K e E := isE_O hE hF he
    have k0 := r0_I hI 0
    have k1 := r0_I hI 1
    have k2 := r0_I hI 2
    refine aw_3_17 ?_
    refine br_ge_y (a := ((i : Nat) : Int)) (b := K.1 e 2) (by omega) (by omega) (by omega) ?_
    refine aw_3_58 ?_
    have e : (E.1 0 2).toNat = i := by omega
    exact hx K hF (by unfold lim; rw [e]; exact h4) (by unfold oth; rw [e]; exact hO)
  | succ n ih =>
    intro i K hi hF h4 hO
    obtain ⟨n0, n1, n2, a0, a1, a2, a3, a4, a5, a6, a7⟩ := hg.1
    have hI : isE K e E := isE_O hE hF he
    have k0 := r0_I hI 0
    have k1 := r0_I hI 1
    have k2 := r0_I hI 2
    have lb := lmp_b hg (p := p) i (by omega)
    have ol := owl_len hg (p := p) i (by omega)
    refine aw_3_17 ?_
    refine br_ge_n (a := ((i : Nat) : Int)) (b := K.1 e 2) (by omega) (by omega) (by omega) ?_
    refine br_eq (a := ((i : Nat) : Int)) (b := ((p : Nat) : Int)) (by omega) (by omega) (fun q2 => ?_) (fun q2 => ?_)
    · refine aw_3_52 ?_
      have el : lmp E p (i + 1) = lmp E p i := if_pos (by omega)
      have eo : owl E p (i + 1) = owl E p i := if_pos (by omega)
      exact ih (i + 1) K (by omega) hF (by rw [el]; exact h4) (by rw [eo]; exact hO)
    · refine ⟨3, 0, by first | decide | omega, by first | decide | omega, en_Ct_eq (W_rdy (e := e) (E := E) (M := K) hI hg (p := i) (by omega)) ?_⟩
      have rb3 := rdy_b hg (p := i) (by omega)
      refine ⟨3, 0, by first | decide | omega, by first | decide | omega, en_Ct_mono (R_watch e E (en_wI K 52 4 (if en_wr (rdy E i) < en_wr (K.1 52 4) then rdy E i else K.1 52 4)) (isE_O hE (frO_4 hF) he) hg he i (by omega) (owl E p i) (isOw_4 hO) (by omega)) ?_⟩
      rintro _ K4 ⟨rfl, hF2, h42, hO2⟩
      refine aw_3_52 ?_
      have el : lmp E p (i + 1) = if rdy E i < lmp E p i then rdy E i else lmp E p i := if_neg (by omega)
      have eo : owl E p (i + 1) = owl E p i ++ owq E i := if_neg (by omega)
      refine ih (i + 1) _ (by omega) (frO_tr (frO_4 hF) hF2) ?_ (by rw [eo]; exact hO2)
      rw [h42, el]
      show (if en_wr (rdy E i) < en_wr (K.1 52 4) then rdy E i else K.1 52 4) = _
      have rbx := rdy_b hg (p := i) (by omega)
      have w1 : en_wr (rdy E i) = rdy E i := en_wr_of ⟨by omega, by omega⟩
      have w2 : en_wr (lmp E p i) = lmp E p i := en_wr_of ⟨by omega, by omega⟩
      rw [h4, w1, w2]
theorem R_wo (e : Nat) (E : Ev) (M : Mm) (hE : isE M e E) (hg : s_ok E) (he : e + 16 ≤ 49) (p : Nat) (hp : p < 4) : en_Ct 4 0 3 [.inr (.inr (1, 0, 52)), .inr (.inr (1, 1, e)), .inl ((p : Nat) : Int)] M (fun r M' => r = none ∧ frO M M' ∧ M'.1 52 4 = lim E p ∧ isOw M' E (oth E p)) := by
  obtain ⟨n0, n1, n2, a0, a1, a2, a3, a4, a5, a6, a7⟩ := hg.1
  have e12 : M.1 (e + 1) 2 = E.1 1 2 := congrFun (hE.1 1 (by decide)) 2
  refine ct_3 rfl ?_
  refine aw_3_0 ?_
  refine ⟨2, rfl, (show 2 < 8 by omega), ?_⟩
  refine L_wo e E M hE hg he p hp (fun K h1 h2 h3 => ⟨rfl, h1, h2, h3⟩) (E.1 0 2).toNat 0 _ (by omega) ⟨fun a z1 _ _ _ => by rw [wI_ne z1, wI_ne z1], fun i z1 z2 => by simp [en_wI, z1, z2], rfl⟩ ?_ ⟨by simp [en_wI, owl], fun k hk => absurd hk (Nat.not_lt_zero k)⟩
  simp [en_wI, lmp, e12]
