/-! order: the row that is sorted and stepped -/
def sw (f : Nat → Int) (i j : Nat) : Nat → Int := fun a => if a = j then f i else if a = i then f j else f a
def rowM (M : Mm) (A : Nat) (f : Nat → Int) : Mm := (fun a => if a = A then f else M.1 a, M.2)
theorem rowM_s {M : Mm} {A : Nat} {f : Nat → Int} : (rowM M A f).1 A = f := if_pos rfl
theorem rowM_n {M : Mm} {A a : Nat} {f : Nat → Int} (h : a ≠ A) : (rowM M A f).1 a = M.1 a := if_neg h
theorem rowM_id {M : Mm} {A : Nat} : rowM M A (M.1 A) = M := Prod.ext (funext fun a => by
  show (if a = A then M.1 A else M.1 a) = M.1 a
  by_cases h : a = A
  · rw [if_pos h, h]
  · rw [if_neg h]) rfl
theorem ex_row {M : Mm} {A : Nat} {f : Nat → Int} {i j : Nat} : exM (rowM M A f) A i j = rowM M A (sw f i j) := by
  refine Prod.ext (funext fun a => ?_) rfl
  by_cases h : a = A
  · subst h
    rw [rowM_s]
    funext b
    simp only [exM, en_wI, rowM, sw, if_true]
  · rw [rowM_n h]
    simp only [exM, en_wI, rowM, if_neg h]
theorem ex_self {M : Mm} {A i j : Nat} : exM M A i j = rowM M A (sw (M.1 A) i j) := by
  have h := ex_row (M := M) (A := A) (f := M.1 A) (i := i) (j := j)
  rw [rowM_id] at h
  exact h
def s_k (f : Nat → Int) : Nat → Option Nat
  | 0 => none
  | m + 1 => if f m < f (m + 1) then some m else s_k f m
def s_j (f : Nat → Int) (k : Nat) : Nat → Nat
  | 0 => k
  | d + 1 => if f k < f (k + d + 1) then k + d + 1 else s_j f k d
def rvF : Nat → (Nat → Int) → Nat → Nat → (Nat → Int)
  | 0, f, _, _ => f
  | n + 1, f, a, b => if b ≤ a then f else rvF n (sw f a b) (a + 1) (b - 1)
def stF (f : Nat → Int) (k m : Nat) : Nat → Int := rvF 5 (sw f k (s_j f k (m - 1 - k))) (k + 1) (m - 1)
theorem sk_b {f : Nat → Int} {k : Nat} : ∀ m, s_k f m = some k → k < m
  | 0, h => by cases h
  | m + 1, h => by
    unfold s_k at h
    split at h
    · cases h; omega
    · have := sk_b m h; omega
theorem sj_b {f : Nat → Int} {k : Nat} : ∀ d, k ≤ s_j f k d ∧ s_j f k d ≤ k + d
  | 0 => by simp [s_j]
  | d + 1 => by
    have := sj_b (f := f) (k := k) d
    unfold s_j
    split <;> omega
def srt (f : Nat → Int) (m : Nat) : Prop := ∀ a b, a < b → b < m → f a < f b
def rng24 (f : Nat → Int) (m : Nat) : Prop := ∀ i, i < m → 0 ≤ f i ∧ f i < 24
def inj (f : Nat → Int) (m : Nat) : Prop := ∀ a b, a < b → b < m → f a ≠ f b
def sset (f g : Nat → Int) (m : Nat) : Prop := ∀ v, (∃ i, i < m ∧ f i = v) ↔ ∃ i, i < m ∧ g i = v
theorem sset_rng {f g : Nat → Int} {m : Nat} (h : sset f g m) (hg : rng24 g m) : rng24 f m := fun i hi => by
  obtain ⟨j, hj, e⟩ := (h (f i)).mp ⟨i, hi, rfl⟩
  rw [← e]
  exact hg j hj
theorem sw_set {f : Nat → Int} {i j m : Nat} (hi : i < m) (hj : j < m) : sset (sw f i j) f m := fun v => by
  constructor
  · rintro ⟨a, ha, e⟩
    unfold sw at e
    by_cases h1 : a = j
    · rw [if_pos h1] at e; exact ⟨i, hi, e⟩
    · rw [if_neg h1] at e
      by_cases h2 : a = i
      · rw [if_pos h2] at e; exact ⟨j, hj, e⟩
      · rw [if_neg h2] at e; exact ⟨a, ha, e⟩
  · rintro ⟨a, ha, e⟩
    by_cases h1 : a = i
    · exact ⟨j, hj, by unfold sw; rw [if_pos rfl, ← h1]; exact e⟩
    · by_cases h2 : a = j
      · refine ⟨i, hi, ?_⟩
        unfold sw
        by_cases h3 : i = j
        · rw [if_pos h3, h3, ← h2]; exact e
        · rw [if_neg h3, if_pos rfl, ← h2]; exact e
      · exact ⟨a, ha, by unfold sw; rw [if_neg h2, if_neg h1]; exact e⟩
theorem sset_tr {f g h : Nat → Int} {m : Nat} (h1 : sset f g m) (h2 : sset g h m) : sset f h m := fun v => (h1 v).trans (h2 v)
theorem sset_rfl {f : Nat → Int} {m : Nat} : sset f f m := fun _ => Iff.rfl
theorem sw_inj {f : Nat → Int} {j m : Nat} (hj : j + 1 < m) (h : inj f m) : inj (sw f j (j + 1)) m := by
  intro a b hab hb
  have hj1 := h j (j + 1) (by omega) hj
  unfold sw
  by_cases b1 : b = j + 1
  · rw [if_pos b1]
    have a1 : a ≠ j + 1 := by omega
    rw [if_neg a1]
    by_cases a2 : a = j
    · rw [if_pos a2]; exact hj1.symm
    · rw [if_neg a2]; exact h a j (by omega) (by omega)
  · rw [if_neg b1]
    by_cases b2 : b = j
    · rw [if_pos b2, if_neg (by omega), if_neg (by omega)]
      exact h a (j + 1) (by omega) hj
    · rw [if_neg b2]
      by_cases a1 : a = j + 1
      · rw [if_pos a1]; exact h j b (by omega) hb
      · rw [if_neg a1]
        by_cases a2 : a = j
        · rw [if_pos a2]; exact h (j + 1) b (by omega) hb
        · rw [if_neg a2]; exact h a b hab hb
theorem ins_sw {f : Nat → Int} {i j : Nat} (hj : j + 1 ≤ i) (h : ∀ a b, a < b → b ≤ i → b ≠ j + 1 → f a < f b) (h2 : f (j + 1) < f j) : ∀ a b, a < b → b ≤ i → b ≠ j → sw f j (j + 1) a < sw f j (j + 1) b := by
  intro a b hab hb hbj
  unfold sw
  rw [if_neg hbj]
  by_cases b1 : b = j + 1
  · rw [if_pos b1, if_neg (show a ≠ j + 1 by omega)]
    by_cases a2 : a = j
    · rw [if_pos a2]; exact h2
    · rw [if_neg a2]; exact h a j (by omega) (by omega) (by omega)
  · rw [if_neg b1]
    by_cases a1 : a = j + 1
    · rw [if_pos a1]; exact h j b (by omega) hb b1
    · rw [if_neg a1]
      by_cases a2 : a = j
      · rw [if_pos a2]; exact h (j + 1) b (by omega) hb b1
      · rw [if_neg a2]; exact h a b hab hb b1
theorem ins_end {f : Nat → Int} {i j : Nat} (h : ∀ a b, a < b → b ≤ i → b ≠ j → f a < f b) (h2 : j = 0 ∨ (∃ c, j = c + 1 ∧ f c < f j)) (hj : j ≤ i) : srt f (i + 1) := by
  intro a b hab hb
  by_cases e : b = j
  · subst e
    rcases h2 with z | ⟨c, rfl, z⟩
    · omega
    · by_cases e2 : a = c
      · subst e2; exact z
      · exact Int.lt_trans (h a c (by omega) (by omega) (by omega)) z
  · exact h a b hab (by omega) e
theorem L_so1 {post : Option AV → Mm → Prop} (A m : Nat) (hm : m ≤ 5) (M : Mm) (g : Nat → Int) (hgr : rng24 g m) (i : Nat) (him : i < m) (hx : ∀ f, srt f (i + 1) → inj f m → sset f g m → en_AW 2 0 135 post 38 [some (.inr (.inr (2, 5, A))), some (.inl ((m : Nat) : Int)), some (.inl ((i : Nat) : Int)), none] [] (rowM M A f) 0) : ∀ (n : Nat) (j : Nat) (f : Nat → Int), (j = n) → (j ≤ i) → (∀ a b, a < b → b ≤ i → b ≠ j → f a < f b) → (inj f m) → (sset f g m) → en_AW 2 0 135 post 9 [some (.inr (.inr (2, 5, A))), some (.inl ((m : Nat) : Int)), some (.inl ((i : Nat) : Int)), some (.inl ((j : Nat) : Int))] [] (rowM M A f) 0 := by
  intro n
  induction n with
  | zero =>
    intro j f hn hji hA hi hs
    refine aw_135_9 ?_
    refine br_le_y (a := ((j : Nat) : Int)) (b := 0) (by omega) (by omega) (by omega) ?_
    refine en_AW_drop [true, true, true, false] ?_
    exact hx f (ins_end hA (Or.inl hn) hji) hi hs
  | succ n ih =>
    intro j f hn hji hA hi hs
    have hr := sset_rng hs hgr
    have ej : (((j : Nat) : Int) - 1).toNat = n := by omega
    have f1 : (rowM M A f).1 A (((j : Nat) : Int) - 1).toNat = f n := by rw [rowM_s, ej]
    have f2 : (rowM M A f).1 A j = f (n + 1) := by rw [rowM_s, hn]
    have f3 := hr n (by omega)
    have f4 := hr (n + 1) (by omega)
    have f5 := hi n (n + 1) (by omega) (by omega)
    have f6 : f j = f (n + 1) := by rw [hn]
    refine aw_135_9 ?_
    refine br_le_n (a := ((j : Nat) : Int)) (b := 0) (by omega) (by omega) (by omega) ?_
    refine ⟨(((j : Nat) : Int) - 1).toNat, it_nn (x := ((j : Nat) : Int) - 1) (by omega), (show (((j : Nat) : Int) - 1).toNat < 5 by omega), ?_⟩
    refine ⟨j, rfl, (show j < 5 by omega), ?_⟩
    refine br_le (a := (rowM M A f).1 A ((((j : Nat) : Int) - 1).toNat)) (b := (rowM M A f).1 A j) (by omega) (by omega) (fun q2 => ?_) (fun q2 => ?_)
    · refine en_AW_drop [true, true, true, false] ?_
      exact hx f (ins_end hA (Or.inr ⟨n, hn, by omega⟩) hji) hi hs
    · refine ⟨1, 0, by first | decide | omega, by first | decide | omega, en_Ct_eq (R_exch A (((j : Nat) : Int) - 1) ((j : Nat) : Int) (by omega) (by omega) (rowM M A f)) ?_⟩
      refine en_AW_ls (congrArg (fun z_ : Int => ([some (.inr (.inr (2, 5, A))), some (.inl ((m : Nat) : Int)), some (.inl ((i : Nat) : Int)), some (.inl z_)] : AL)) (show ((j : Nat) : Int) + (-1) = ((n : Nat) : Int) from by omega)) ?_
      rw [show exM (rowM M A f) A ((((j : Nat) : Int) - 1).toNat) (((j : Nat) : Int).toNat) = rowM M A (sw f n (n + 1)) by rw [ej, Int.toNat_natCast, hn]; exact ex_row]
      exact ih n _ rfl (by omega) (ins_sw (by omega) (by rw [hn] at hA; exact hA) (by omega)) (sw_inj (by omega) hi) (sset_tr (sw_set (by omega) (by omega)) hs)
theorem L_so {post : Option AV → Mm → Prop} (A m : Nat) (hm : m ≤ 5) (M : Mm) (g : Nat → Int) (hgr : rng24 g m) (hq : ∀ f, srt f m → sset f g m → post none (rowM M A f)) : ∀ (n : Nat) (i : Nat) (f : Nat → Int), (m ≤ i + n) → (i ≤ 6) → (srt f i) → (inj f m) → (sset f g m) → en_AW 2 0 135 post 2 [some (.inr (.inr (2, 5, A))), some (.inl ((m : Nat) : Int)), some (.inl ((i : Nat) : Int)), none] [] (rowM M A f) 0 := by
  intro n
  induction n with
  | zero =>
    intro i f hn hi6 hA hi hs
    refine aw_135_2 ?_
    refine br_ge_y (a := ((i : Nat) : Int)) (b := ((m : Nat) : Int)) (by omega) (by omega) (by omega) ?_
    refine aw_135_44 ?_
    exact hq f (fun a b h1 h2 => hA a b h1 (by omega)) hs
  | succ n ih =>
    intro i f hn hi6 hA hi hs
    refine aw_135_2 ?_
    refine br_ge (a := ((i : Nat) : Int)) (b := ((m : Nat) : Int)) (by omega) (by omega) (fun q1 => ?_) (fun q1 => ?_)
    · refine aw_135_44 ?_
      exact hq f (fun a b h1 h2 => hA a b h1 (by omega)) hs
    · refine L_so1 A m hm M g hgr i (by omega) (fun f2 h1 h2 h3 => ?_) i i f rfl (Nat.le_refl _) (fun a b h1 h2 h3 => hA a b h1 (by omega)) hi hs
      refine aw_135_38 ?_
      exact ih (i + 1) f2 (by omega) (by omega) h1 h2 h3
theorem R_sort (A m : Nat) (hm : m ≤ 5) (M : Mm) (hr : rng24 (M.1 A) m) (hi : inj (M.1 A) m) : en_Ct 2 0 135 [.inr (.inr (2, 5, A)), .inl ((m : Nat) : Int)] M (fun r M' => r = none ∧ ∃ f, M' = rowM M A f ∧ srt f m ∧ sset f (M.1 A) m) := by
  refine ct_135 rfl ?_
  refine aw_135_0 ?_
  rw [show en_AW 2 0 135 = en_AW 2 0 135 from rfl]
  have key := L_so (post := fun r M' => r = none ∧ ∃ f, M' = rowM M A f ∧ srt f m ∧ sset f (M.1 A) m) A m hm M (M.1 A) hr (fun f h1 h2 => ⟨rfl, f, rfl, h1, h2⟩) 5 1 (M.1 A) (by omega) (by omega) (fun a b h1 h2 => by omega) hi sset_rfl
  rw [rowM_id] at key
  exact key
theorem L_st3 {post : Option AV → Mm → Prop} (A m : Nat) (hm : m ≤ 5) (M : Mm) (k j : Nat) (g : Nat → Int) (hq : post (some (.inl 1)) (rowM M A g)) : ∀ (n : Nat) (a : Nat) (b : Nat) (f : Nat → Int), (b ≤ a + n) → (b < m) → (a ≤ 6) → (rvF n f a b = g) → en_AW 2 0 136 post 71 [some (.inr (.inr (2, 5, A))), some (.inl ((m : Nat) : Int)), some (.inl ((k : Nat) : Int)), some (.inl ((j : Nat) : Int)), some (.inl ((a : Nat) : Int)), some (.inl ((b : Nat) : Int))] [] (rowM M A f) 0 := by
  intro n
  induction n with
  | zero =>
    intro a b f hn hb ha hG
    refine aw_136_71 ?_
    refine br_ge_y (a := ((a : Nat) : Int)) (b := ((b : Nat) : Int)) (by omega) (by omega) (by omega) ?_
    refine aw_136_95 ?_
    rw [← show f = g from hG] at hq
    exact ⟨Or.inr rfl, hq⟩
  | succ n ih =>
    intro a b f hn hb ha hG
    refine aw_136_71 ?_
    refine br_ge (a := ((a : Nat) : Int)) (b := ((b : Nat) : Int)) (by omega) (by omega) (fun q1 => ?_) (fun q1 => ?_)
    · refine aw_136_95 ?_
      rw [show g = f by rw [← hG, rvF, if_pos (by omega)]] at hq
      exact ⟨Or.inr rfl, hq⟩
    · refine ⟨1, 0, by first | decide | omega, by first | decide | omega, en_Ct_eq (R_exch A ((a : Nat) : Int) ((b : Nat) : Int) (by omega) (by omega) (rowM M A f)) ?_⟩
      refine en_AW_ls (congrArg (fun z_ : Int => ([some (.inr (.inr (2, 5, A))), some (.inl ((m : Nat) : Int)), some (.inl ((k : Nat) : Int)), some (.inl ((j : Nat) : Int)), some (.inl (((a : Nat) : Int) + 1)), some (.inl z_)] : AL)) (show ((b : Nat) : Int) + (-1) = (((b - 1) : Nat) : Int) from by omega)) ?_
      rw [show exM (rowM M A f) A (((a : Nat) : Int).toNat) (((b : Nat) : Int).toNat) = rowM M A (sw f a b) by rw [Int.toNat_natCast, Int.toNat_natCast]; exact ex_row]
      exact ih (a + 1) (b - 1) _ (by omega) (by omega) (by omega) (by rw [rvF, if_neg (by omega)] at hG; exact hG)
theorem L_st2 {post : Option AV → Mm → Prop} (A m : Nat) (hm : m ≤ 5) (M : Mm) (hr : rng24 (M.1 A) m) (k J : Nat) (hx : en_AW 2 0 136 post 55 [some (.inr (.inr (2, 5, A))), some (.inl ((m : Nat) : Int)), some (.inl ((k : Nat) : Int)), some (.inl ((J : Nat) : Int)), none, none] [] M 0) : ∀ (n : Nat) (j : Nat), (j = k + n) → (j < m) → (s_j (M.1 A) k n = J) → en_AW 2 0 136 post 35 [some (.inr (.inr (2, 5, A))), some (.inl ((m : Nat) : Int)), some (.inl ((k : Nat) : Int)), some (.inl ((j : Nat) : Int)), none, none] [] M 0 := by
  intro n
  induction n with
  | zero =>
    intro j hn hj hJ
    refine aw_136_35 ?_
    refine br_le_y (a := ((j : Nat) : Int)) (b := ((k : Nat) : Int)) (by omega) (by omega) (by omega) ?_
    refine en_AW_ls (congrArg (fun z_ : Int => ([some (.inr (.inr (2, 5, A))), some (.inl ((m : Nat) : Int)), some (.inl ((k : Nat) : Int)), some (.inl z_), none, none] : AL)) (show ((j : Nat) : Int) = ((J : Nat) : Int) from by rw [← hJ, hn]; rfl)) ?_
    exact hx
  | succ n ih =>
    intro j hn hj hJ
    have f1 := hr j hj
    have f2 := hr k (by omega)
    have f3 : M.1 A j = M.1 A (k + n + 1) := by rw [hn]; rfl
    refine aw_136_35 ?_
    refine br_le_n (a := ((j : Nat) : Int)) (b := ((k : Nat) : Int)) (by omega) (by omega) (by omega) ?_
    refine ⟨j, rfl, (show j < 5 by omega), ?_⟩
    refine ⟨k, rfl, (show k < 5 by omega), ?_⟩
    refine br_gt (a := M.1 A j) (b := M.1 A k) (by omega) (by omega) (fun q2 => ?_) (fun q2 => ?_)
    · refine en_AW_ls (congrArg (fun z_ : Int => ([some (.inr (.inr (2, 5, A))), some (.inl ((m : Nat) : Int)), some (.inl ((k : Nat) : Int)), some (.inl z_), none, none] : AL)) (show ((j : Nat) : Int) = ((J : Nat) : Int) from by rw [← hJ, s_j, if_pos (by omega)]; omega)) ?_
      exact hx
    · refine en_AW_ls (congrArg (fun z_ : Int => ([some (.inr (.inr (2, 5, A))), some (.inl ((m : Nat) : Int)), some (.inl ((k : Nat) : Int)), some (.inl z_), none, none] : AL)) (show ((j : Nat) : Int) + (-1) = (((k + n) : Nat) : Int) from by omega)) ?_
      exact ih (k + n) rfl (by omega) (by rw [s_j, if_neg (by omega)] at hJ; exact hJ)
theorem L_st1 {post : Option AV → Mm → Prop} (A m : Nat) (hm : m ≤ 5) (M : Mm) (hr : rng24 (M.1 A) m) (hq1 : s_k (M.1 A) (m - 1) = none → post (some (.inl 0)) M) (hq2 : ∀ k, s_k (M.1 A) (m - 1) = some k → post (some (.inl 1)) (rowM M A (stF (M.1 A) k m))) (k : Nat) (hk : s_k (M.1 A) (m - 1) = some k) : en_AW 2 0 136 post 25 [some (.inr (.inr (2, 5, A))), some (.inl ((m : Nat) : Int)), some (.inl ((k : Nat) : Int)), none, none, none] [] M 0 := by
  have hkm := sk_b _ hk
  refine aw_136_25 ?_
  refine br_ge_y (a := ((k : Nat) : Int)) (b := 0) (by omega) (by omega) (by omega) ?_
  refine aw_136_31 ?_
  refine en_AW_ls (congrArg (fun z_ : Int => ([some (.inr (.inr (2, 5, A))), some (.inl ((m : Nat) : Int)), some (.inl ((k : Nat) : Int)), some (.inl z_), none, none] : AL)) (show ((m : Nat) : Int) - 1 = (((m - 1) : Nat) : Int) from by omega)) ?_
  have hjb := sj_b (f := M.1 A) (k := k) (m - 1 - k)
  refine L_st2 A m hm M hr k _ ?_ (m - 1 - k) (m - 1) (by omega) (by omega) rfl
  refine aw_136_55 ?_
  refine ⟨1, 0, by first | decide | omega, by first | decide | omega, en_Ct_eq (R_exch A ((k : Nat) : Int) ((s_j (M.1 A) k (m - 1 - k) : Nat) : Int) (by omega) (by omega) M) ?_⟩
  have eb : (((m : Nat) : Int) - 1) = (((m - 1 : Nat) : Nat) : Int) := by omega
  refine en_AW_ls (congrArg (fun z_ : Int => ([some (.inr (.inr (2, 5, A))), some (.inl ((m : Nat) : Int)), some (.inl ((k : Nat) : Int)), some (.inl ((s_j (M.1 A) k (m - 1 - k) : Nat) : Int)), some (.inl (((k : Nat) : Int) + 1)), some (.inl z_)] : AL)) (show ((m : Nat) : Int) - 1 = (((m - 1) : Nat) : Int) from by omega)) ?_
  rw [show exM M A (((k : Nat) : Int).toNat) (((s_j (M.1 A) k (m - 1 - k) : Nat) : Int).toNat) = rowM M A (sw (M.1 A) k (s_j (M.1 A) k (m - 1 - k))) by rw [Int.toNat_natCast, Int.toNat_natCast]; exact ex_self]
  exact L_st3 A m hm M k _ _ (hq2 k hk) 5 (k + 1) (m - 1) _ (by omega) (by omega) (by omega) rfl
theorem L_st {post : Option AV → Mm → Prop} (A m : Nat) (hm : m ≤ 5) (M : Mm) (hr : rng24 (M.1 A) m) (hq1 : s_k (M.1 A) (m - 1) = none → post (some (.inl 0)) M) (hq2 : ∀ k, s_k (M.1 A) (m - 1) = some k → post (some (.inl 1)) (rowM M A (stF (M.1 A) k m))) : ∀ (n : Nat) (c : Int), (c + 1 = n ∨ (n = 0 ∧ c < 0)) → (-2 ≤ c ∧ c < m - 1 + (if m = 0 then 1 else 0)) → (s_k (M.1 A) (m - 1) = s_k (M.1 A) n) → en_AW 2 0 136 post 4 [some (.inr (.inr (2, 5, A))), some (.inl ((m : Nat) : Int)), some (.inl c), none, none, none] [] M 0 := by
  intro n
  induction n with
  | zero =>
    intro c hn hc hS
    refine aw_136_4 ?_
    refine br_lt_y (a := c) (b := 0) (by omega) (by omega) (by omega) ?_
    refine aw_136_25 ?_
    refine br_ge_n (a := c) (b := 0) (by omega) (by omega) (by omega) ?_
    exact ⟨Or.inl rfl, hq1 hS⟩
  | succ n ih =>
    intro c hn hc hS
    have hm0 : m ≠ 0 := by
      intro z
      rw [if_pos z] at hc
      omega
    rw [if_neg hm0] at hc
    have hcn : c.toNat = n := by omega
    have hcn1 : (c + 1).toNat = n + 1 := by omega
    have f1 := hr n (by omega)
    have f2 := hr (n + 1) (by omega)
    have f3 : M.1 A c.toNat = M.1 A n := by rw [hcn]
    have f4 : M.1 A (c + 1).toNat = M.1 A (n + 1) := by rw [hcn1]
    refine aw_136_4 ?_
    refine br_lt_n (a := c) (b := 0) (by omega) (by omega) (by omega) ?_
    refine ⟨c.toNat, it_nn (x := c) (by omega), (show c.toNat < 5 by omega), ?_⟩
    refine ⟨(c + 1).toNat, it_nn (x := c + 1) (by omega), (show (c + 1).toNat < 5 by omega), ?_⟩
    refine br_lt (a := M.1 A c.toNat) (b := M.1 A ((c + 1).toNat)) (by omega) (by omega) (fun q2 => ?_) (fun q2 => ?_)
    · refine en_AW_ls (congrArg (fun z_ : Int => ([some (.inr (.inr (2, 5, A))), some (.inl ((m : Nat) : Int)), some (.inl z_), none, none, none] : AL)) (show c = ((n : Nat) : Int) from by omega)) ?_
      exact L_st1 A m hm M hr hq1 hq2 n (by rw [hS, s_k, if_pos (by omega)])
    · exact ih (c + (-1)) (by omega) (by rw [if_neg hm0]; omega) (by rw [hS, s_k, if_neg (by omega)])
theorem R_step (A m : Nat) (hm : m ≤ 5) (M : Mm) (hr : rng24 (M.1 A) m) : en_Ct 2 0 136 [.inr (.inr (2, 5, A)), .inl ((m : Nat) : Int)] M (fun r M' => (s_k (M.1 A) (m - 1) = none ∧ r = some (.inl 0) ∧ M' = M) ∨ ∃ k, s_k (M.1 A) (m - 1) = some k ∧ r = some (.inl 1) ∧ M' = rowM M A (stF (M.1 A) k m)) := by
  refine ct_136 rfl ?_
  refine aw_136_0 ?_
  exact L_st A m hm M hr (fun h => Or.inl ⟨h, rfl, rfl⟩) (fun k h => Or.inr ⟨k, h, rfl, rfl⟩) (m - 1) _ (by omega) (by split <;> omega) rfl
