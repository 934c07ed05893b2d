/-! the best sheet: the reference's way -/
def mkX (K : Mm) (b : Nat) (E : Ev) : Ev := (fun r => if r = 14 then K.1 (b + 29) else E.1 r, fun q => K.1 (b + 24 + 1 + 1 * q))
def isQ (K : Mm) (b : Nat) (E : Ev) (p : Nat) : Prop := isM K b (mkX K b E) ∧ ∀ q, q < 4 → q ≠ p → K.1 (b + 29) q = E.1 14 q ∧ ∀ i : Nat, (i : Int) < E.1 14 q → K.1 (b + 24 + 1 + 1 * q) i = E.2 q i
theorem isQ_M {K : Mm} {b : Nat} {E : Ev} {p : Nat} (h : isM K b E) : isQ K b E p := by
  obtain ⟨z0, ⟨z5, z6, z7, z8⟩, z9⟩ := h
  refine ⟨⟨z0, ⟨z5, rfl, z7, fun r h2 h8 => ?_⟩, fun q _ => rfl⟩, fun q hq _ => ⟨congrFun z6 q, fun i _ => congrFun (z9 q hq) i⟩⟩
  show _ = (if r = 14 then _ else E.1 r)
  rw [if_neg (by omega)]
  exact z8 r h2 h8
theorem isQ_fr {M K : Mm} {b : Nat} {E : Ev} {p : Nat} (h : isQ M b E p) (hp : p < 4) (h0 : ∀ i, i = 9 ∨ i = 10 ∨ i = 18 ∨ i = 23 → K.1 b i = M.1 b i) (h1 : ∀ a, b + 17 ≤ a → a < b + 32 → a ≠ b + 29 → a ≠ b + 24 + 1 + 1 * p → K.1 a = M.1 a) (h2 : ∀ q, q ≠ p → K.1 (b + 29) q = M.1 (b + 29) q) : isQ K b E p := by
  obtain ⟨⟨⟨y1, y2, y3, y4⟩, ⟨z5, z6, z7, z8⟩, z9⟩, hq⟩ := h
  refine ⟨⟨⟨?_, ?_, ?_, ?_⟩, ⟨?_, rfl, ?_, fun r h2 h8 => ?_⟩, fun q _ => rfl⟩, fun q hq4 hqp => ⟨?_, fun i hi => ?_⟩⟩
  · rw [h0 9 (by omega)]; exact y1
  · rw [h0 10 (by omega)]; exact y2
  · rw [h0 18 (by omega)]; exact y3
  · rw [h0 23 (by omega)]; exact y4
  · rw [h1 _ (by omega) (by omega) (by omega) (by omega)]; exact z5
  · rw [h1 _ (by omega) (by omega) (by omega) (by omega)]; exact z7
  · rw [h1 _ (by omega) (by omega) (by omega) (by omega)]
    have := z8 r h2 h8
    rw [this]
    show (if r = 14 then _ else E.1 r) = (if r = 14 then _ else E.1 r)
    rw [if_neg (by omega), if_neg (by omega)]
  · rw [h2 q hqp]; exact (hq q hq4 hqp).1
  · rw [h1 _ (by omega) (by omega) (by omega) (by omega)]; exact (hq q hq4 hqp).2 i hi
theorem Q_num {K : Mm} {b : Nat} {E : Ev} {p : Nat} (h : isQ K b E p) (hg : s_ok E) : s_num (vM K b) ∧ s_wok (vM K b) := ⟨tm_num h.1 hg.1, tm_wok h.1 hg.2.1⟩
theorem Q_cost {K : Mm} {b : Nat} {E : Ev} {p : Nat} (h : isQ K b E p) (hg : s_ok E) {x : Int} (h0 : 0 ≤ x) (h1 : x < E.1 0 1) : en_Ct 1 0 189 [.inr (.inr (1, 6, b)), .inl x] K (fun r M' => r = some (.inl (s_cost E x.toNat)) ∧ M' = K) := by
  have := R_takesOf' b x K h0 (by rw [h.1.1.2.1]; exact h1) (Q_num h hg).2 (Q_num h hg).1
  rw [tm_cost h.1] at this
  exact this
theorem Q_can {K : Mm} {b : Nat} {E : Ev} {p q : Nat} (h : isQ K b E p) (hg : s_ok E) {x : Int} (hq : q < 4) (h0 : 0 ≤ x) (h1 : x < E.1 0 1) : en_Ct 1 0 164 [.inr (.inr (1, 6, b)), .inl ((q : Nat) : Int), .inl x] K (fun r M' => r = some (.inl (if s_can E q x.toNat = true then 1 else 0)) ∧ M' = K) := by
  have := R_mayBe' b q x K hq h0 (by rw [h.1.1.2.1]; exact h1) (Q_num h hg).2 (Q_num h hg).1
  rw [tm_can h.1] at this
  exact this
/-- with a sheet written: the evening says so -/
theorem Q_sh {K : Mm} {b : Nat} {E : Ev} {p : Nat} {l : List Nat} (h : isQ K b E p) (hg : s_ok E) (hv : vld E p l) (hp : p < 4) (h1 : K.1 (b + 29) p = (l.length : Int)) (h2 : ∀ k, k < l.length → K.1 (b + 24 + 1 + 1 * p) k = ((l.getD k 0 : Nat) : Int)) : evs (mkX K b E) (shE E p l) ∧ s_ok (mkX K b E) := by
  have e : evs (mkX K b E) (shE E p l) := by
    refine ⟨fun i hi => rfl, fun i hi => rfl, fun r i r2 r8 hi => ?_, fun q hq => ⟨?_, rfl⟩, fun q i hq hi => ?_⟩
    · rw [shE_r (by omega)]
      show (if r = 14 then _ else E.1 r) i = _
      rw [if_neg (by omega)]
    · show K.1 (b + 29) q = (if q = p then (l.length : Int) else E.1 14 q)
      by_cases hqp : q = p
      · rw [if_pos hqp, hqp]; exact h1
      · rw [if_neg hqp]; exact (h.2 q hq hqp).1
    · have hi' : (i : Int) < K.1 (b + 29) q := hi
      show K.1 (b + 24 + 1 + 1 * q) i = (if q = p then _ else E.2 q) i
      by_cases hqp : q = p
      · subst hqp
        rw [if_pos rfl, if_pos (by omega)]
        exact h2 i (by omega)
      · rw [if_neg hqp]
        exact (h.2 q hq hqp).2 i (by rw [← (h.2 q hq hqp).1]; exact hi')
  exact ⟨e, ev_ok (evs_symm e) (ok_shE hg hv)⟩
/-- the first to be written -/
def mnx (cost : Nat → Int) (left : Nat) : Nat → Int
  | 0 => -1
  | n + 1 => if left.testBit n = true ∧ (mnx cost left n = -1 ∨ cost n < cost (mnx cost left n).toNat) then (n : Int) else mnx cost left n
theorem mnx_ok {cost : Nat → Int} {left : Nat} : ∀ n, (mnx cost left n = -1 ∧ ∀ v, v < n → ¬ left.testBit v = true) ∨ ∃ w, w < n ∧ mnx cost left n = (w : Int) ∧ left.testBit w = true ∧ ∀ v, v < n → left.testBit v = true → v = w ∨ lt2 cost w v
  | 0 => Or.inl ⟨rfl, fun v hv => absurd hv (Nat.not_lt_zero v)⟩
  | n + 1 => by
    unfold mnx
    by_cases hc : left.testBit n = true ∧ (mnx cost left n = -1 ∨ cost n < cost (mnx cost left n).toNat)
    · rw [if_pos hc]
      right
      refine ⟨n, by omega, rfl, hc.1, fun v hv hb => ?_⟩
      by_cases hvn : v = n
      · exact Or.inl hvn
      · right
        rcases mnx_ok (cost := cost) (left := left) n with ⟨-, h2⟩ | ⟨w, w1, w2, w3, w4⟩
        · exact absurd hb (h2 v (by omega))
        · have h3 : cost n < cost w := by
            rcases hc.2 with z | z
            · omega
            · rw [w2, Int.toNat_natCast] at z; exact z
          rcases w4 v (by omega) hb with z | z
          · subst z; unfold lt2; omega
          · unfold lt2 at z ⊢; omega
    · rw [if_neg hc]
      rcases mnx_ok (cost := cost) (left := left) n with ⟨h1, h2⟩ | ⟨w, w1, w2, w3, w4⟩
      · refine Or.inl ⟨h1, fun v hv hb => ?_⟩
        by_cases hvn : v = n
        · subst hvn; exact hc ⟨hb, Or.inl h1⟩
        · exact h2 v (by omega) hb
      · refine Or.inr ⟨w, by omega, w2, w3, fun v hv hb => ?_⟩
        by_cases hvn : v = n
        · right
          subst hvn
          have h3 : ¬ cost v < cost w := fun z => hc ⟨hb, Or.inr (by rw [w2, Int.toNat_natCast]; exact z)⟩
          unfold lt2
          omega
        · exact w4 v (by omega) hb
theorem mnx_b {cost : Nat → Int} {left n : Nat} : -1 ≤ mnx cost left n ∧ mnx cost left n < (n : Int) := by
  rcases mnx_ok (cost := cost) (left := left) n with ⟨h1, -⟩ | ⟨w, w1, w2, -⟩ <;> omega
theorem mnx_hd {E : Ev} {p left w : Nat} {r : List Nat} (hl : ∀ v, left.testBit v = true → v ∈ lin E p) (h : lf E p left = w :: r) : mnx (s_cost E) left (E.1 0 1).toNat = (w : Int) := by
  have hm : ∀ v, v ∈ lf E p left ↔ left.testBit v = true := fun v => by
    unfold lf
    rw [List.mem_filter]
    exact ⟨fun z => z.2, fun z => ⟨hl v z, z⟩⟩
  have hs : (lf E p left).Pairwise (lt2 (s_cost E)) := (lnp_sorted _).sublist List.filter_sublist
  rw [h] at hs
  have hs' := List.pairwise_cons.mp hs
  have hwb : left.testBit w = true := (hm w).mp (by rw [h]; exact List.mem_cons_self ..)
  have hwl := (lin_mem.mp (hl w hwb)).1
  rcases mnx_ok (cost := s_cost E) (left := left) (E.1 0 1).toNat with ⟨-, h2⟩ | ⟨v, v1, v2, v3, v4⟩
  · exact absurd hwb (h2 w hwl)
  · have hv := (hm v).mpr v3
    rw [h] at hv
    rcases v4 w hwl hwb with z | z
    · rw [v2, z]
    · rcases List.mem_cons.mp hv with y | y
      · rw [v2, y]
      · have := hs'.1 v y
        unfold lt2 at this z
        omega
theorem lf_clr {E : Ev} {p left d w : Nat} {r : List Nat} (h : lf E p left = w :: r) (hd : ∀ j, d.testBit j = (left.testBit j && !decide (j = w))) : lf E p d = r := by
  have hn : (lf E p left).Nodup := lin_nd.sublist List.filter_sublist
  rw [h] at hn
  have hn' := List.nodup_cons.mp hn
  have e : lf E p d = (lf E p left).filter (fun j => !decide (j = w)) := by
    unfold lf
    rw [List.filter_filter]
    congr 1
    funext j
    rw [hd j, Bool.and_comm]
  rw [e, h, List.filter_cons_of_neg (by simp)]
  exact List.filter_eq_self.mpr (fun a ha => by
    have : a ≠ w := fun z => hn'.1 (z ▸ ha)
    simp [this])
theorem lf_nil {E : Ev} {p left : Nat} (hl : ∀ v, left.testBit v = true → v ∈ lin E p) (h : lf E p left = []) : left = 0 := by
  refine Nat.eq_of_testBit_eq (fun j => ?_)
  rw [Nat.zero_testBit]
  by_cases z : left.testBit j = true
  · have : j ∈ lf E p left := by
      unfold lf
      exact List.mem_filter.mpr ⟨hl j z, z⟩
    rw [h] at this
    cases this
  · exact Bool.not_eq_true _ ▸ z
theorem L_wr1 {post : Option AV → Mm → Prop} (b : Nat) (E : Ev) (hg : s_ok E) (p : Nat) (K : Mm) (hQ : isQ K b E p) (left : Nat) (hl24 : left < 2 ^ 24) (set : Nat) (hx : en_AW 2 0 213 post 68 [some (.inr (.inr (1, 6, b))), some (.inl ((p : Nat) : Int)), some (.inl ((set : Nat) : Int)), some (.inl ((left : Nat) : Int)), some (.inl (mnx (s_cost E) left (E.1 0 1).toNat)), none] [] K 0) : ∀ (n : Nat) (i : Nat), (((i : Nat) : Int) + ((n : Nat) : Int) = E.1 0 1) → en_AW 2 0 213 post 19 [some (.inr (.inr (1, 6, b))), some (.inl ((p : Nat) : Int)), some (.inl ((set : Nat) : Int)), some (.inl ((left : Nat) : Int)), some (.inl (mnx (s_cost E) left i)), some (.inl ((i : Nat) : Int))] [] K 0 := by
  intro n
  induction n with
  | zero =>
    intro i hi
    obtain ⟨n0, n1, n2, a0, a1, a2, a3, a4, a5, a6, a7⟩ := hg.1
    have k0 := hQ.1.1.1
    have k1 := hQ.1.1.2.1
    have k2 := hQ.1.1.2.2.1
    have e00 : (mkX K b E).1 0 0 = E.1 0 0 := rfl
    have e01 : (mkX K b E).1 0 1 = E.1 0 1 := rfl
    have e02 : (mkX K b E).1 0 2 = E.1 0 2 := rfl
    refine aw_213_19 ?_
    refine br_ge_y (a := ((i : Nat) : Int)) (b := K.1 b 10) (by omega) (by omega) (by omega) ?_
    refine en_AW_drop [true, true, true, true, true, false] ?_
    rw [show i = (E.1 0 1).toNat by omega]
    exact hx
  | succ n ih =>
    intro i hi
    obtain ⟨n0, n1, n2, a0, a1, a2, a3, a4, a5, a6, a7⟩ := hg.1
    have k0 := hQ.1.1.1
    have k1 := hQ.1.1.2.1
    have k2 := hQ.1.1.2.2.1
    have e00 : (mkX K b E).1 0 0 = E.1 0 0 := rfl
    have e01 : (mkX K b E).1 0 1 = E.1 0 1 := rfl
    have e02 : (mkX K b E).1 0 2 = E.1 0 2 := rfl
    have mb := mnx_b (cost := s_cost E) (left := left) (n := i)
    have hbit := nu_bit (a := left) (w := i) (by omega) (by omega)
    have hb01 := nu_and1 (en_shr ((left : Nat) : Int) ((i : Nat) : Int))
    have hbT : left.testBit i = true → en_and (en_shr ((left : Nat) : Int) ((i : Nat) : Int)) 1 = 1 := fun z => by rw [hbit, if_pos z]
    have hbF : en_and (en_shr ((left : Nat) : Int) ((i : Nat) : Int)) 1 ≠ 0 → left.testBit i = true := fun z => by
      by_cases y : left.testBit i = true
      · exact y
      · rw [hbit, if_neg y] at z; exact absurd rfl z
    refine aw_213_19 ?_
    refine br_ge_n (a := ((i : Nat) : Int)) (b := K.1 b 10) (by omega) (by omega) (by omega) ?_
    refine br_eq (a := en_and (en_shr ((left : Nat) : Int) ((i : Nat) : Int)) 1) (b := 0) (by omega) (by omega) (fun q2 => ?_) (fun q2 => ?_)
    · refine aw_213_62 ?_
      have e : mnx (s_cost E) left (i + 1) = mnx (s_cost E) left i := if_neg (fun z => by
        have z1 := hbT z.1
        have z2 := z.2
        omega)
      refine en_AW_ls (congrArg (fun z_ : Int => ([some (.inr (.inr (1, 6, b))), some (.inl ((p : Nat) : Int)), some (.inl ((set : Nat) : Int)), some (.inl ((left : Nat) : Int)), some (.inl z_), some (.inl (((i : Nat) : Int) + 1))] : AL)) (show mnx (s_cost E) left i = mnx (s_cost E) left (i + 1) from e.symm)) ?_
      exact ih (i + 1) (by omega)
    · refine br_eq (a := mnx (s_cost E) left i) (b := (-1)) (by omega) (by omega) (fun q3 => ?_) (fun q3 => ?_)
      · refine aw_213_58 ?_
        refine aw_213_62 ?_
        have e : mnx (s_cost E) left (i + 1) = ((i : Nat) : Int) := if_pos ⟨hbF (by omega), by omega⟩
        refine en_AW_ls (congrArg (fun z_ : Int => ([some (.inr (.inr (1, 6, b))), some (.inl ((p : Nat) : Int)), some (.inl ((set : Nat) : Int)), some (.inl ((left : Nat) : Int)), some (.inl z_), some (.inl (((i : Nat) : Int) + 1))] : AL)) (show ((i : Nat) : Int) = mnx (s_cost E) left (i + 1) from e.symm)) ?_
        exact ih (i + 1) (by omega)
      · refine ⟨1, 0, by first | decide | omega, by first | decide | omega, en_Ct_eq (Q_cost (K := K) (p := p) hQ hg (x := ((i : Nat) : Int)) (by omega) (by omega)) ?_⟩
        have cb4 := s_cost_b (hg.2.1 i (by omega))
        refine ⟨1, 0, by first | decide | omega, by first | decide | omega, en_Ct_eq (Q_cost (K := K) (p := p) hQ hg (x := (mnx (s_cost E) left i)) (by omega) (by omega)) ?_⟩
        have cb5 := s_cost_b (hg.2.1 ((mnx (s_cost E) left i).toNat) (by omega))
        refine br_ge (a := s_cost E i) (b := s_cost E ((mnx (s_cost E) left i).toNat)) (by omega) (by omega) (fun q6 => ?_) (fun q6 => ?_)
        · refine aw_213_62 ?_
          have e : mnx (s_cost E) left (i + 1) = mnx (s_cost E) left i := if_neg (fun z => by
            have z1 := hbT z.1
            have z2 := z.2
            omega)
          refine en_AW_ls (congrArg (fun z_ : Int => ([some (.inr (.inr (1, 6, b))), some (.inl ((p : Nat) : Int)), some (.inl ((set : Nat) : Int)), some (.inl ((left : Nat) : Int)), some (.inl z_), some (.inl (((i : Nat) : Int) + 1))] : AL)) (show mnx (s_cost E) left i = mnx (s_cost E) left (i + 1) from e.symm)) ?_
          exact ih (i + 1) (by omega)
        · refine aw_213_58 ?_
          refine aw_213_62 ?_
          have e : mnx (s_cost E) left (i + 1) = ((i : Nat) : Int) := if_pos ⟨hbF (by omega), by omega⟩
          refine en_AW_ls (congrArg (fun z_ : Int => ([some (.inr (.inr (1, 6, b))), some (.inl ((p : Nat) : Int)), some (.inl ((set : Nat) : Int)), some (.inl ((left : Nat) : Int)), some (.inl z_), some (.inl (((i : Nat) : Int) + 1))] : AL)) (show ((i : Nat) : Int) = mnx (s_cost E) left (i + 1) from e.symm)) ?_
          exact ih (i + 1) (by omega)
theorem L_wr {post : Option AV → Mm → Prop} (b : Nat) (E : Ev) (hg : s_ok E) (p : Nat) (hp : p < 4) (M : Mm) (set : Nat) (l : List Nat) (hl5 : l.length ≤ 5) (hx : ∀ K : Mm, isQ K b E p → (∀ a, a ≠ b + 29 → a ≠ (b + 24 + 1 + 1 * p) → K.1 a = M.1 a) → K.2 = M.2 → K.1 (b + 29) p = (l.length : Int) → (∀ k, k < l.length → K.1 (b + 24 + 1 + 1 * p) k = ((l.getD k 0 : Nat) : Int)) → post none K) : ∀ (n : Nat) (left : Nat) (D : List Nat) (K : Mm), ((lf E p left).length = n) → (left < 2 ^ 24) → (∀ v, left.testBit v = true → v ∈ lin E p) → (D ++ lf E p left = l) → (isQ K b E p) → (∀ a, a ≠ b + 29 → a ≠ (b + 24 + 1 + 1 * p) → K.1 a = M.1 a) → (K.2 = M.2) → (K.1 (b + 29) p = ((D.length : Nat) : Int)) → (∀ k, k < D.length → K.1 (b + 24 + 1 + 1 * p) k = ((D.getD k 0 : Nat) : Int)) → en_AW 2 0 213 post 9 [some (.inr (.inr (1, 6, b))), some (.inl ((p : Nat) : Int)), some (.inl ((set : Nat) : Int)), some (.inl ((left : Nat) : Int)), none, none] [] K 0 := by
  intro n
  induction n with
  | zero =>
    intro left D K hn hl24 hlv hD hQ hF hL hsz hrow
    have h0 := lf_nil hlv (List.eq_nil_of_length_eq_zero hn)
    refine aw_213_9 ?_
    refine br_eq_y (a := ((left : Nat) : Int)) (b := 0) (by omega) (by omega) (by omega) ?_
    refine aw_213_100 ?_
    have e : D = l := by rw [← hD, List.eq_nil_of_length_eq_zero hn, List.append_nil]
    rw [e] at hsz hrow
    exact hx K hQ hF hL hsz hrow
  | succ n ih =>
    intro left D K hn hl24 hlv hD hQ hF hL hsz hrow
    obtain ⟨n0, n1, n2, a0, a1, a2, a3, a4, a5, a6, a7⟩ := hg.1
    have k0 := hQ.1.1.1
    have k1 := hQ.1.1.2.1
    have k2 := hQ.1.1.2.2.1
    have e00 : (mkX K b E).1 0 0 = E.1 0 0 := rfl
    have e01 : (mkX K b E).1 0 1 = E.1 0 1 := rfl
    have e02 : (mkX K b E).1 0 2 = E.1 0 2 := rfl
    obtain ⟨w, r, hwr⟩ : ∃ w r, lf E p left = w :: r := by
      cases hz : lf E p left with
      | nil => rw [hz] at hn; cases hn
      | cons w r => exact ⟨w, r, rfl⟩
    have hmn := mnx_hd hlv hwr
    have hwm : w ∈ lf E p left := by rw [hwr]; exact List.mem_cons_self ..
    have hwb : left.testBit w = true := (List.mem_filter.mp hwm).2
    have hwl := (lin_mem.mp (hlv w hwb)).1
    have hne : left ≠ 0 := fun z => by rw [z, Nat.zero_testBit] at hwb; cases hwb
    have hDl : D.length + (r.length + 1) = l.length := by rw [← hD, hwr, List.length_append, List.length_cons]
    have mb : 0 ≤ mnx (s_cost E) left (E.1 0 1).toNat ∧ mnx (s_cost E) left (E.1 0 1).toNat < 24 := by rw [hmn]; omega
    have hszb : 0 ≤ K.1 (b + 29) p ∧ K.1 (b + 29) p < 5 := by rw [hsz]; omega
    refine aw_213_9 ?_
    refine br_eq_n (a := ((left : Nat) : Int)) (b := 0) (by omega) (by omega) (by omega) ?_
    refine L_wr1 b E hg p K hQ left hl24 set ?_ (E.1 0 1).toNat 0 (by omega)
    refine aw_213_68 ?_
    refine ⟨p, rfl, (show p < 4 by omega), ?_⟩
    refine ⟨p, rfl, (show p < 4 by omega), ?_⟩
    refine ⟨p, rfl, (show p < 4 by omega), ?_⟩
    refine ⟨(K.1 (b + 29) p).toNat, it_nn (x := K.1 (b + 29) p) (by omega), (show (K.1 (b + 29) p).toNat < 5 by omega), ?_⟩
    obtain ⟨d, d1, d2, d3⟩ := nu_clr (c := left) (i := w) (by omega) (by omega)
    refine en_AW_drop [true, true, true, true, false, true] ?_
    refine en_AW_M (M1 := en_wI (en_wI K (b + 29) p (((D.length + 1 : Nat) : Nat) : Int)) (b + 24 + 1 + 1 * p) D.length ((w : Nat) : Int)) ?_ ?_
    · show en_wI (en_wI K (b + 29) p (K.1 (b + 29) p + 1)) (b + 24 + 1 + 1 * p) (K.1 (b + 29) p).toNat (mnx (s_cost E) left (E.1 0 1).toNat) = _
      rw [hsz, hmn, Int.toNat_natCast]
      rfl
    refine en_AW_ls (congrArg (fun z_ : Int => ([some (.inr (.inr (1, 6, b))), some (.inl ((p : Nat) : Int)), some (.inl ((set : Nat) : Int)), some (.inl z_), none, none] : AL)) (show en_and ((left : Nat) : Int) (en_xor (en_shl 1 (mnx (s_cost E) left (E.1 0 1).toNat)) (-1)) = ((d : Nat) : Int) by rw [hmn]; exact d2)) ?_
    have er : lf E p d = r := lf_clr hwr d3
    refine ih d (D ++ [w]) _ (by rw [er]; rw [hwr] at hn; simpa using hn) (Nat.lt_of_le_of_lt d1 hl24) (fun v hv => hlv v (by rw [d3] at hv; exact (Bool.and_eq_true _ _ ▸ hv).1)) (by rw [er, List.append_assoc]; rw [hwr] at hD; exact hD) (isQ_fr hQ hp (fun i hi => by rw [wI_ne (by omega), wI_ne (by omega)]) (fun a h0 h1 h2 h3 => by rw [wI_ne h3, wI_ne h2]) (fun q hq => by rw [wI_ne (by omega)]; simp [en_wI, hq])) (fun a z1 z2 => by rw [wI_ne z2, wI_ne z1]; exact hF a z1 z2) hL ?_ (fun k hk => ?_)
    · rw [wI_ne (by omega), List.length_append]
      simp [en_wI]
    · rw [List.length_append] at hk
      have hk' : k < D.length + 1 := hk
      by_cases z : k < D.length
      · have e1 : ¬ k = D.length := by omega
        rw [wI_row]
        show (if k = D.length then _ else _) = _
        rw [if_neg e1, wI_ne (by omega), hrow k z, List.getD_eq_getElem?_getD, List.getD_eq_getElem?_getD, List.getElem?_append_left z]
      · have e1 : k = D.length := by omega
        subst e1
        rw [wI_row]
        show (if D.length = D.length then _ else _) = _
        rw [if_pos rfl, List.getD_eq_getElem?_getD, List.getElem?_append_right (Nat.le_refl _), Nat.sub_self]
        rfl
theorem R_writes (b : Nat) (E : Ev) (hg : s_ok E) (p : Nat) (hp : p < 4) (M : Mm) (hQ : isQ M b E p) (set : Nat) (hs24 : set < 2 ^ 24) (hsl : ∀ v, set.testBit v = true → v ∈ lin E p) (hv : vld E p (lf E p set)) : en_Ct 2 0 213 [.inr (.inr (1, 6, b)), .inl ((p : Nat) : Int), .inl ((set : Nat) : Int)] M (fun r M' => r = none ∧ isQ M' b E p ∧ (∀ a, a ≠ b + 29 → a ≠ (b + 24 + 1 + 1 * p) → M'.1 a = M.1 a) ∧ M'.2 = M.2 ∧ evs (mkX M' b E) (shE E p (lf E p set)) ∧ s_ok (mkX M' b E)) := by
  refine ct_213 rfl ?_
  refine aw_213_0 ?_
  refine ⟨p, rfl, (show p < 4 by omega), ?_⟩
  refine L_wr b E hg p hp M set (lf E p set) (vld_len hg hv) (fun K h1 h2 h3 h4 h5 => ?_) (lf E p set).length set [] _ rfl hs24 hsl (List.nil_append _) (isQ_fr hQ hp (fun i hi => by rw [wI_ne (by omega)]) (fun a h0 h1 h2 h3 => by rw [wI_ne h2]) (fun q hq => by simp [en_wI, hq])) (fun a z1 _ => by rw [wI_ne z1]) rfl (by simp [en_wI]) (fun k hk => absurd hk (Nat.not_lt_zero k))
  have := Q_sh h1 hg hv hp h4 h5
  exact ⟨rfl, h1, h2, h3, this.1, this.2⟩
