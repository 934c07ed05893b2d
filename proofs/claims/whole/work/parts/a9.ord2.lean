/-! orders of a sheet -/
def pmw : Nat → List Nat → List (List Nat)
  | 0, _ => [[]]
  | k + 1, l => l.flatMap (fun w => (pmw k (l.filter (fun x => x != w))).map (fun r => w :: r))
def lfn (L : List Nat) : Nat → Int := fun i => ((L.getD i 0 : Nat) : Int)
def nxL (m : Nat) (L : List Nat) : Option (List Nat) := (s_k (lfn L) (m - 1)).map (fun k => (List.range m).map (fun i => (stF (lfn L) k m i).toNat))
def chn (m : Nat) : List Nat → List (List Nat) → Bool
  | L, [] => decide (nxL m L = none)
  | L, L2 :: r => decide (nxL m L = some L2) && chn m L2 r
def okL (m : Nat) (L : List Nat) : Bool := decide (L.length = m) && (L.all (fun x => decide (x < m)) && decide L.Nodup)
def chk (m : Nat) : Bool := decide ((pmw m (List.range m)).head? = some (List.range m)) && (chn m (List.range m) (pmw m (List.range m)).tail && (decide ((pmw m (List.range m)).length ≤ 120) && (pmw m (List.range m)).all (okL m)))
set_option maxRecDepth 100000 in
theorem chk_ok : ∀ m : Fin 6, chk m.val = true := by decide +kernel
theorem okL_i {m : Nat} {L : List Nat} (h : okL m L = true) : L.length = m ∧ (∀ x ∈ L, x < m) ∧ L.Nodup := by
  unfold okL at h
  rw [Bool.and_eq_true, Bool.and_eq_true] at h
  exact ⟨of_decide_eq_true h.1, fun x hx => of_decide_eq_true (List.all_eq_true.mp h.2.1 x hx), of_decide_eq_true h.2.2⟩
theorem chk_i {m : Nat} (hm : m ≤ 5) : ∃ r, pmw m (List.range m) = List.range m :: r ∧ chn m (List.range m) r = true ∧ r.length + 1 ≤ 120 ∧ ∀ L ∈ pmw m (List.range m), L.length = m ∧ (∀ x ∈ L, x < m) ∧ L.Nodup := by
  have h := chk_ok ⟨m, by omega⟩
  unfold chk at h
  rw [Bool.and_eq_true, Bool.and_eq_true, Bool.and_eq_true] at h
  obtain ⟨h1, h2, h3, h4⟩ := h
  have h1 := of_decide_eq_true h1
  have h3 := of_decide_eq_true h3
  simp only [] at h1 h2 h3 h4
  cases hc : pmw m (List.range m) with
  | nil => rw [hc] at h1; cases h1
  | cons a r =>
    rw [hc] at h1 h2 h3 h4
    have e : a = List.range m := by injection h1
    subst e
    exact ⟨r, rfl, h2, h3, fun L hL => okL_i (List.all_eq_true.mp h4 L hL)⟩
theorem fm_c {α β : Type} {f g : α → List β} : ∀ l : List α, (∀ a ∈ l, f a = g a) → l.flatMap f = l.flatMap g
  | [], _ => rfl
  | a :: r, h => by rw [List.flatMap_cons, List.flatMap_cons, h a (List.mem_cons_self ..), fm_c r (fun x hx => h x (List.mem_cons_of_mem _ hx))]
theorem pmw_map {g : Nat → Nat} : ∀ (k : Nat) (L : List Nat), (∀ a ∈ L, ∀ b ∈ L, g a = g b → a = b) → pmw k (L.map g) = (pmw k L).map (List.map g)
  | 0, L, _ => rfl
  | k + 1, L, h => by
    rw [pmw, pmw, List.flatMap_map, List.map_flatMap]
    refine fm_c L (fun a ha => ?_)
    have e : (L.map g).filter (fun x => x != g a) = (L.filter (fun x => x != a)).map g := by
      rw [List.filter_map]
      refine congrArg (List.map g) (List.filter_congr (fun x hx => ?_))
      show (g x != g a) = (x != a)
      by_cases z : x = a
      · rw [z]; simp
      · have z2 : g x ≠ g a := fun q => z (h x hx a ha q)
        rw [bne_iff_ne.mpr z, bne_iff_ne.mpr z2]
    rw [e, pmw_map k _ (fun a ha b hb q => h a (List.mem_filter.mp ha).1 b (List.mem_filter.mp hb).1 q), List.map_map, List.map_map]
    rfl
def rl (g : Nat → Nat) (m : Nat) (F f : Nat → Int) : Prop := ∀ j, j < m → 0 ≤ f j ∧ f j < m ∧ F j = ((g (f j).toNat : Nat) : Int)
section RL
variable {g : Nat → Nat} {m : Nat}
theorem rl_lt (hg : ∀ a b, a < b → b < m → g a < g b) {F f : Nat → Int} (h : rl g m F f) {i j : Nat} (hi : i < m) (hj : j < m) : F i < F j ↔ f i < f j := by
  obtain ⟨a1, a2, a3⟩ := h i hi
  obtain ⟨b1, b2, b3⟩ := h j hj
  rw [a3, b3]
  constructor
  · intro z
    by_cases q : f i < f j
    · exact q
    · by_cases e : f i = f j
      · rw [e] at z; omega
      · have := hg (f j).toNat (f i).toNat (by omega) (by omega)
        omega
  · intro z
    have := hg (f i).toNat (f j).toNat (by omega) (by omega)
    omega
theorem rl_sw {F f : Nat → Int} (h : rl g m F f) {i j : Nat} (hi : i < m) (hj : j < m) : rl g m (sw F i j) (sw f i j) := fun a ha => by
  unfold sw
  by_cases h1 : a = j
  · simp only [if_pos h1]; exact h i hi
  · by_cases h2 : a = i
    · simp only [if_neg h1, if_pos h2]; exact h j hj
    · simp only [if_neg h1, if_neg h2]; exact h a ha
theorem rl_k (hg : ∀ a b, a < b → b < m → g a < g b) {F f : Nat → Int} (h : rl g m F f) : ∀ d, d < m ∨ d = 0 → s_k F d = s_k f d
  | 0, _ => rfl
  | d + 1, hd => by
    have hl := rl_lt hg h (i := d) (j := d + 1) (by omega) (by omega)
    rw [s_k, s_k, rl_k hg h d (by omega)]
    by_cases z : f d < f (d + 1)
    · rw [if_pos z, if_pos (hl.mpr z)]
    · rw [if_neg z, if_neg (fun q => z (hl.mp q))]
theorem rl_j (hg : ∀ a b, a < b → b < m → g a < g b) {F f : Nat → Int} (h : rl g m F f) {k : Nat} : ∀ d, k + d < m → s_j F k d = s_j f k d
  | 0, _ => rfl
  | d + 1, hd => by
    have hl := rl_lt hg h (i := k) (j := k + d + 1) (by omega) (by omega)
    rw [s_j, s_j, rl_j hg h d (by omega)]
    by_cases z : f k < f (k + d + 1)
    · rw [if_pos z, if_pos (hl.mpr z)]
    · rw [if_neg z, if_neg (fun q => z (hl.mp q))]
theorem rl_rv : ∀ (n : Nat) (F f : Nat → Int) (a b : Nat), rl g m F f → b < m → rl g m (rvF n F a b) (rvF n f a b)
  | 0, _, _, _, _, h, _ => h
  | n + 1, F, f, a, b, h, hb => by
    rw [rvF, rvF]
    by_cases z : b ≤ a
    · rw [if_pos z, if_pos z]; exact h
    · rw [if_neg z, if_neg z]
      exact rl_rv n _ _ _ _ (rl_sw h (by omega) hb) (by omega)
theorem rl_st (hg : ∀ a b, a < b → b < m → g a < g b) {F f : Nat → Int} (h : rl g m F f) {k : Nat} (hk : s_k f (m - 1) = some k) : rl g m (stF F k m) (stF f k m) := by
  have hkm := sk_b _ hk
  have hj := sj_b (f := f) (k := k) (m - 1 - k)
  unfold stF
  rw [rl_j hg h (m - 1 - k) (by omega)]
  exact rl_rv _ _ _ _ _ (rl_sw h (by omega) (by omega)) (by omega)
theorem nx_some (hg : ∀ a b, a < b → b < m → g a < g b) {F : Nat → Int} {Q Q' : List Nat} (h : rl g m F (lfn Q)) (hq : nxL m Q = some Q') : ∃ k, s_k F (m - 1) = some k ∧ rl g m (stF F k m) (lfn Q') := by
  unfold nxL at hq
  cases hk : s_k (lfn Q) (m - 1) with
  | none => rw [hk] at hq; cases hq
  | some k =>
    rw [hk] at hq
    have e : (List.range m).map (fun i => (stF (lfn Q) k m i).toNat) = Q' := by
      rw [Option.map_some] at hq
      injection hq
    have hs := rl_st hg h hk
    refine ⟨k, by rw [rl_k hg h (m - 1) (by omega)]; exact hk, fun j hj => ?_⟩
    have h1 := hs j hj
    have e2 : lfn Q' j = stF (lfn Q) k m j := by
      rw [← e]
      unfold lfn
      rw [List.getD_eq_getElem?_getD, List.getElem?_map, List.getElem?_range hj]
      show (((stF _ k m j).toNat : Nat) : Int) = _
      have := h1.1
      unfold lfn at this
      omega
    rw [e2]
    exact h1
theorem nx_none (hg : ∀ a b, a < b → b < m → g a < g b) {F : Nat → Int} {Q : List Nat} (h : rl g m F (lfn Q)) (hq : nxL m Q = none) : s_k F (m - 1) = none := by
  rw [rl_k hg h (m - 1) (by omega)]
  unfold nxL at hq
  cases hk : s_k (lfn Q) (m - 1) with
  | none => rfl
  | some k => rw [hk] at hq; cases hq
end RL
theorem chn_c {m : Nat} {Q Q2 : List Nat} {r : List (List Nat)} (h : chn m Q (Q2 :: r) = true) : nxL m Q = some Q2 ∧ chn m Q2 r = true := by
  unfold chn at h
  rw [Bool.and_eq_true] at h
  exact ⟨of_decide_eq_true h.1, h.2⟩
theorem chn_n {m : Nat} {Q : List Nat} (h : chn m Q [] = true) : nxL m Q = none := of_decide_eq_true h
