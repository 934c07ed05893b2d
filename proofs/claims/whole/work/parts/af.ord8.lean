/-! order: the reference -/
def isSt (K : Mm) (m : Nat) (s : Int × List Nat) : Prop := K.1 84 40 = s.1 ∧ (-1 ≤ s.1 ∧ s.1 ≤ 250) ∧ (s.1 = -1 ∨ ∀ j, j < m → K.1 120 j = lfn s.2 j)
def frU (p : Nat) (M K : Mm) : Prop := (∀ a, a ≠ 84 → a ≠ 119 → a ≠ 120 → a ≠ 146 + p → a ≠ 155 → K.1 a = M.1 a) ∧ (∀ i, i ≠ 40 → K.1 84 i = M.1 84 i) ∧ K.2 = M.2
theorem frU_rfl {p : Nat} {M : Mm} : frU p M M := ⟨fun _ _ _ _ _ _ => rfl, fun _ _ => rfl, rfl⟩
theorem frU_tr {p : Nat} {M K K' : Mm} (h : frU p M K) (h' : frU p K K') : frU p M K' := ⟨fun a h1 h2 h3 h4 h5 => (h'.1 a h1 h2 h3 h4 h5).trans (h.1 a h1 h2 h3 h4 h5), fun i hi => (h'.2.1 i hi).trans (h.2.1 i hi), h'.2.2.trans h.2.2⟩
theorem frU_J {p : Nat} (hp : p < 4) {M K : Mm} {E : Ev} (h : frU p M K) (hJ : isM M 84 E) : isM K 84 E := isM_fr hJ (fun i hi => h.2.1 i (by omega)) (fun a h0 h1 => h.1 a (by omega) (by omega) (by omega) (by omega) (by omega))
def skI (E : Ev) (p m : Nat) (pre : List Nat) (s : Int × List Nat) (K : Mm) : Prop := isM K 84 E ∧ (∃ F, evs (vM K 121) (u_sh E F m p)) ∧ isSt K m s ∧ ∀ j, j < pre.length → K.1 119 j = lfn pre j
def tk (E : Ev) (p k : Nat) (pre : List Nat) (s : Int × List Nat) : Int × List Nat := ((pmw k ((wl E p).filter (fun w => decide (w ∉ pre)))).map (fun t => pre ++ t)).foldl (stO E p) s
def seekC (E : Ev) (p m k : Nat) : Prop := ∀ (M : Mm) (pre : List Nat) (mask : Nat) (s : Int × List Nat), pre.length + k = m → skI E p m pre s M → mask < 32 → (∀ j, j < m → (mask.testBit j = true ↔ (E.2 p j).toNat ∈ pre)) → pre.Nodup → (∀ w ∈ pre, w ∈ s_shl E p) → en_Ct (k + 7) 0 220 [.inr (.inr (1, 6, 84)), .inr (.inr (1, 6, 121)), .inl ((p : Nat) : Int), .inl ((pre.length : Nat) : Int), .inl ((mask : Nat) : Int)] M (fun r M' => r = none ∧ frU p M M' ∧ skI E p m pre (tk E p k pre s) M')
theorem tk_0 {E : Ev} {p : Nat} {pre : List Nat} {s : Int × List Nat} : tk E p 0 pre s = stO E p s pre := by
  unfold tk
  rw [pmw, List.map_cons, List.map_nil, List.foldl_cons, List.foldl_nil, List.append_nil]
theorem tk_s {E : Ev} {p k : Nat} {pre : List Nat} {s : Int × List Nat} : tk E p (k + 1) pre s = ((List.range' 0 (E.1 0 1).toNat).filter (fun w => decide (w ∈ s_shl E p ∧ w ∉ pre))).foldl (fun s w => tk E p k (pre ++ [w]) s) s := by
  have e : (wl E p).filter (fun w => decide (w ∉ pre)) = (List.range' 0 (E.1 0 1).toNat).filter (fun w => decide (w ∈ s_shl E p ∧ w ∉ pre)) := by
    unfold wl
    rw [List.filter_filter, List.range_eq_range']
    refine List.filter_congr (fun x _ => ?_)
    by_cases h1 : x ∈ s_shl E p <;> by_cases h2 : x ∈ pre <;> simp [h1, h2]
  rw [← e]
  unfold tk
  rw [pmw, List.map_flatMap, List.foldl_flatMap]
  refine congrArg (fun f => List.foldl f s _) (funext fun s => funext fun w => ?_)
  rw [List.map_map, List.filter_filter]
  have e1 : (wl E p).filter (fun x => (x != w) && decide (x ∉ pre)) = (wl E p).filter (fun x => decide (x ∉ pre ++ [w])) := by
    refine List.filter_congr (fun x _ => ?_)
    by_cases h1 : x = w <;> by_cases h2 : x ∈ pre <;> simp [h1, h2]
  rw [e1]
  refine congrArg (fun f => List.foldl (stO E p) s (List.map f _)) (funext fun t => ?_)
  show pre ++ w :: t = (pre ++ [w]) ++ t
  rw [List.append_assoc]
  rfl
/-- the copy's sheet, written anew -/
theorem cp_ev {E : Ev} {M K : Mm} {F : Nat → Int} {p m : Nat} (hp : p < 4) {pre : List Nat} (h : evs (vM M 121) (u_sh E F m p)) (hl : pre.length = m) (h1 : ∀ a, 121 ≤ a → a < 155 → a ≠ 146 + p → K.1 a = M.1 a) (h2 : ∀ j, j < m → K.1 (146 + p) j = lfn pre j) : evs (vM K 121) (shE E p pre) := by
  obtain ⟨X, hX⟩ : ∃ X : Ev, X = ((vM M 121).1, fun q => if q = p then K.1 (146 + p) else (vM M 121).2 q) := ⟨_, rfl⟩
  have hM := isM_self (M := M) (b := 121)
  have hK : isM K 121 X := by
    rw [hX]
    obtain ⟨z0, ⟨z5, z6, z7, z8⟩, z9⟩ := hM
    refine ⟨by rw [h1 121 (by decide) (by decide) (by omega)]; exact z0, ⟨by rw [h1 152 (by decide) (by decide) (by omega)]; exact z5, by rw [h1 150 (by decide) (by decide) (by omega)]; exact z6, by rw [h1 151 (by decide) (by decide) (by omega)]; exact z7, fun r a b => by rw [h1 (121 + 15 + r) (by omega) (by omega) (by omega)]; exact z8 r a b⟩, fun q hq => ?_⟩
    show K.1 (121 + 24 + 1 + 1 * q) = if q = p then K.1 (146 + p) else (vM M 121).2 q
    by_cases hqp : q = p
    · rw [if_pos hqp, hqp]
      exact congrArg K.1 (by omega)
    · rw [if_neg hqp, h1 (121 + 24 + 1 + 1 * q) (by omega) (by omega) (by omega)]
      exact z9 q hq
  refine evs_tr (isM_vM hK) ?_
  rw [hX]
  have e14 : ∀ q, q < 4 → (vM M 121).1 14 q = if q = p then ((m : Nat) : Int) else E.1 14 q := fun q hq => (h.2.2.2.1 q hq).1
  refine ⟨h.1, h.2.1, fun r i z2 z8 zi => (h.2.2.1 r i z2 z8 zi).trans (by show (if r = 14 then _ else E.1 r) i = (if r = 14 then _ else E.1 r) i; rw [if_neg (by omega), if_neg (by omega)]), fun q hq => ⟨?_, (h.2.2.2.1 q hq).2⟩, fun q i hq hi => ?_⟩
  · refine (e14 q hq).trans ?_
    rw [← hl]
    rfl
  · have hi2 : (i : Int) < (vM M 121).1 14 q := hi
    show (if q = p then K.1 (146 + p) else (vM M 121).2 q) i = (if q = p then (fun i => if i < pre.length then ((pre.getD i 0 : Nat) : Int) else E.2 p i) else E.2 q) i
    by_cases hqp : q = p
    · rw [if_pos hqp, if_pos hqp]
      rw [e14 q hq, if_pos hqp] at hi2
      show _ = if i < pre.length then ((pre.getD i 0 : Nat) : Int) else E.2 p i
      rw [if_pos (by omega)]
      exact h2 i (by omega)
    · rw [if_neg hqp, if_neg hqp]
      have := h.2.2.2.2 q i hq hi2
      refine this.trans ?_
      show (if q = p then _ else E.2 q) i = _
      rw [if_neg hqp]
theorem vM_frS {E : Ev} {M K : Mm} {F : Nat → Int} {p m : Nat} (h : evs (vM M 121) (u_sh E F m p)) (h1 : ∀ a, 121 ≤ a → a < 155 → K.1 a = M.1 a) : evs (vM K 121) (u_sh E F m p) := by
  have := isM_vM (isM_fr (isM_self (M := M) (b := 121)) (K := K) (fun i _ => by rw [h1 121 (by decide) (by decide)]) (fun a h0 h2 => h1 a (by omega) (by omega)))
  exact evs_tr this h
theorem sk_rest {l : List Nat} {P : Nat → Bool} {f : (Int × List Nat) → Nat → Int × List Nat} {i n : Nat} {s : Int × List Nat} : ((List.range' i (n + 1)).filter P).foldl f s = ((List.range' (i + 1) n).filter P).foldl f (if P i = true then f s i else s) := by
  rw [List.range'_succ, List.filter_cons]
  by_cases h : P i = true
  · rw [if_pos h, if_pos h, List.foldl_cons]
  · rw [if_neg h, if_neg h]
theorem sh_at {E : Ev} (hg : s_ok E) {p : Nat} (hp : p < 4) {j j' : Nat} (h : j < (E.1 14 p).toNat) (h' : j' < (E.1 14 p).toNat) (e : (E.2 p j).toNat = (E.2 p j').toNat) : j = j' := by
  rcases Nat.lt_trichotomy j j' with z | z | z
  · exact absurd (congrArg (E.1 4) e) (hg.2.2.2.1 p hp j j' z (by omega))
  · exact z
  · exact absurd (congrArg (E.1 4) e.symm) (hg.2.2.2.1 p hp j' j z (by omega))
theorem sh_in {E : Ev} {p j : Nat} (h : j < (E.1 14 p).toNat) : (E.2 p j).toNat ∈ s_shl E p := by
  unfold s_shl
  refine List.mem_of_getElem? (i := j) ?_
  rw [shl_get _ _ _ _ h, Nat.zero_add]
theorem L_sa {post : Option AV → Mm → Prop} (E : Ev) (hg : s_ok E) (p : Nat) (hp : (p : Int) < E.1 0 2) (m : Nat) (hm : m = (E.1 14 p).toNat) (hm5 : m ≤ 5) (pre : List Nat) (mask : Nat) (hl : pre.length = m) (hw : ∀ j, j < m → 0 ≤ lfn pre j ∧ lfn pre j < 24) (M : Mm) (hnow : ∀ j, j < m → M.1 119 j = lfn pre j) (hx : ∀ K : Mm, (∀ a, a ≠ (121 + 24 + 1 + 1 * p) → K.1 a = M.1 a) → K.2 = M.2 → (∀ j, j < m → K.1 (121 + 24 + 1 + 1 * p) j = lfn pre j) → en_AW 7 0 220 post 41 [some (.inr (.inr (1, 6, 84))), some (.inr (.inr (1, 6, 121))), some (.inl ((p : Nat) : Int)), some (.inl ((pre.length : Nat) : Int)), some (.inl ((mask : Nat) : Int)), none, none] [] K 0) : ∀ (n : Nat) (i : Nat) (K : Mm), (i + n = m) → (∀ a, a ≠ (121 + 24 + 1 + 1 * p) → K.1 a = M.1 a) → (K.2 = M.2) → (∀ j, j < i → K.1 (121 + 24 + 1 + 1 * p) j = lfn pre j) → en_AW 7 0 220 post 13 [some (.inr (.inr (1, 6, 84))), some (.inr (.inr (1, 6, 121))), some (.inl ((p : Nat) : Int)), some (.inl ((pre.length : Nat) : Int)), some (.inl ((mask : Nat) : Int)), some (.inl ((i : Nat) : Int)), none] [] K 0 := by
  intro n
  induction n with
  | zero =>
    intro i K hi h1 h2 h3
    refine aw_220_13 ?_
    refine br_ge_y (a := ((i : Nat) : Int)) (b := ((pre.length : Nat) : Int)) (by omega) (by omega) (by omega) ?_
    refine en_AW_drop [true, true, true, true, true, false, true] ?_
    exact hx K h1 h2 (fun j hj => h3 j (by omega))
  | succ n ih =>
    intro i K hi h1 h2 h3
    have hp4 : p < 4 := by have := hg.1.2.2.1; omega
    refine aw_220_13 ?_
    refine br_ge_n (a := ((i : Nat) : Int)) (b := ((pre.length : Nat) : Int)) (by omega) (by omega) (by omega) ?_
    refine ⟨p, rfl, (show p < 4 by omega), ?_⟩
    refine ⟨i, rfl, (show i < 5 by omega), ?_⟩
    refine ⟨i, rfl, (show i < 5 by omega), ?_⟩
    exact ih (i + 1) (en_wI K (121 + 24 + 1 + 1 * p) i (K.1 119 i)) (by omega) (fun a ha => by rw [wI_ne ha]; exact h1 a ha) h2 (fun j hj => by
      show (if (121 + 24 + 1 + 1 * p) = (121 + 24 + 1 + 1 * p) then (fun j => if j = i then K.1 119 i else K.1 (121 + 24 + 1 + 1 * p) j) else _) j = _
      rw [if_pos rfl]
      show (if j = i then K.1 119 i else K.1 (121 + 24 + 1 + 1 * p) j) = _
      by_cases z : j = i
      · rw [if_pos z, h1 119 (by omega), z]; exact hnow i (by omega)
      · rw [if_neg z]; exact h3 j (by omega))
theorem L_sb {post : Option AV → Mm → Prop} (E : Ev) (hg : s_ok E) (p : Nat) (hp : (p : Int) < E.1 0 2) (m : Nat) (hm : m = (E.1 14 p).toNat) (hm5 : m ≤ 5) (pre : List Nat) (mask : Nat) (hl : pre.length = m) (M : Mm) (x : Int) (hnow : ∀ j, j < m → M.1 119 j = lfn pre j) (hq : ∀ K : Mm, (∀ a, a ≠ 120 → K.1 a = M.1 a) → K.2 = M.2 → (∀ j, j < m → K.1 120 j = lfn pre j) → post none K) : ∀ (n : Nat) (i : Nat) (K : Mm), (i + n = m) → (∀ a, a ≠ 120 → K.1 a = M.1 a) → (K.2 = M.2) → (∀ j, j < i → K.1 120 j = lfn pre j) → en_AW 7 0 220 post 74 [some (.inr (.inr (1, 6, 84))), some (.inr (.inr (1, 6, 121))), some (.inl ((p : Nat) : Int)), some (.inl ((pre.length : Nat) : Int)), some (.inl ((mask : Nat) : Int)), some (.inl x), some (.inl ((i : Nat) : Int))] [] K 0 := by
  intro n
  induction n with
  | zero =>
    intro i K hi h1 h2 h3
    refine aw_220_74 ?_
    refine br_ge_y (a := ((i : Nat) : Int)) (b := ((pre.length : Nat) : Int)) (by omega) (by omega) (by omega) ?_
    refine aw_220_100 ?_
    exact hq K h1 h2 (fun j hj => h3 j (by omega))
  | succ n ih =>
    intro i K hi h1 h2 h3
    refine aw_220_74 ?_
    refine br_ge_n (a := ((i : Nat) : Int)) (b := ((pre.length : Nat) : Int)) (by omega) (by omega) (by omega) ?_
    refine ⟨i, rfl, (show i < 5 by omega), ?_⟩
    refine ⟨i, rfl, (show i < 5 by omega), ?_⟩
    exact ih (i + 1) (en_wI K 120 i (K.1 119 i)) (by omega) (fun a ha => by rw [wI_ne ha]; exact h1 a ha) h2 (fun j hj => by
      show (if j = i then K.1 119 i else K.1 120 j) = _
      by_cases z : j = i
      · rw [if_pos z, h1 119 (by omega), z]; exact hnow i (by omega)
      · rw [if_neg z]; exact h3 j (by omega))
