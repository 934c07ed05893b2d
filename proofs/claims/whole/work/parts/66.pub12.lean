def z0 : Nat → Int := fun _ => 0
def zE (E : Ev) (r n : Nat) : Ev := (fun q => if q = r then (fun i => if i < n then z0 i else E.1 r i) else E.1 q, E.2)
theorem zE_n {E : Ev} {r n q i : Nat} (h : q ≠ r ∨ n ≤ i) : (zE E r n).1 q i = E.1 q i := by
  unfold zE
  by_cases h1 : q = r
  · subst h1
    have : ¬ i < n := by omega
    simp [this]
  · simp [h1]
theorem zE_s {E : Ev} {r n i : Nat} (h : i < n) : (zE E r n).1 r i = 0 := by simp [zE, h, z0]
theorem zE_c {E F : Ev} {r n q j : Nat} (h : E.1 q j = F.1 q j) : (zE E r n).1 q j = (zE F r n).1 q j := by
  by_cases hq : q = r ∧ j < n
  · obtain ⟨rfl, hj⟩ := hq
    rw [zE_s hj, zE_s hj]
  · rw [zE_n (by omega), zE_n (by omega)]
    exact h
theorem ev_z {E F : Ev} (h : evs E F) {r n : Nat} (h5 : ∀ p, p < 4 → 0 ≤ E.1 14 p) : evs (zE E r n) (zE F r n) := ⟨fun j hj => zE_c (h.1 j hj), fun j hj => zE_c (h.2.1 j hj), fun q j a b c => zE_c (h.2.2.1 q j a b c), fun p hp => ⟨zE_c (h.2.2.2.1 p hp).1, zE_c (h.2.2.2.1 p hp).2⟩, fun p j hp hj => h.2.2.2.2 p j hp (by
  have h0 := h5 p hp
  by_cases hh : r = 14 ∧ p < n
  · obtain ⟨rfl, hn⟩ := hh
    rw [zE_s hn] at hj
    omega
  · rw [zE_n (by omega)] at hj
    exact hj)⟩
theorem ok_z {E : Ev} (hg : s_ok E) {r n : Nat} (hr : r = 8 ∨ r = 14 ∨ r = 15) : s_ok (zE E r n) := by
  obtain ⟨g1, g2, g3, g4, g5⟩ := hg
  have e14 : ∀ p, 0 ≤ E.1 14 p → 0 ≤ (zE E r n).1 14 p ∧ (zE E r n).1 14 p ≤ E.1 14 p := by
    intro p hp
    by_cases hh : r = 14 ∧ p < n
    · obtain ⟨rfl, hn⟩ := hh
      rw [zE_s hn]
      omega
    · rw [zE_n (by omega)]
      omega
  refine ⟨?_, fun w hw => ?_, fun p hp => ?_, fun p hp a b hab hb => ?_, fun i hi => ?_⟩
  · unfold s_num at g1 ⊢
    rw [zE_n (by omega), zE_n (by omega), zE_n (by omega), zE_n (by omega), zE_n (by omega), zE_n (by omega), zE_n (by omega), zE_n (by omega), zE_n (by omega), zE_n (by omega), zE_n (by omega)]
    exact g1
  · rw [zE_n (by omega)] at hw
    have := g2 w hw
    unfold s_word at this ⊢
    rw [zE_n (q := 0) (by omega), zE_n (q := 2) (by omega), zE_n (q := 3) (by omega), zE_n (q := 4) (by omega), zE_n (q := 5) (by omega), zE_n (q := 6) (by omega), zE_n (q := 7) (by omega)]
    refine ⟨this.1, this.2.1, this.2.2.1, this.2.2.2.1, this.2.2.2.2.1, this.2.2.2.2.2.1, ?_⟩
    by_cases hh : r = 8 ∧ w < n
    · obtain ⟨rfl, hn⟩ := hh
      rw [zE_s hn]
      omega
    · rw [zE_n (by omega)]
      exact this.2.2.2.2.2.2
  · obtain ⟨y1, y2⟩ := g3 p hp
    have := e14 p y1.1
    refine ⟨by omega, fun j hj => ?_⟩
    rw [zE_n (q := 0) (by omega)]
    exact y2 j (by omega)
  · have := e14 p (g3 p hp).1.1
    rw [zE_n (q := 4) (by omega), zE_n (q := 4) (by omega)]
    exact g4 p hp a b hab (by omega)
  · by_cases hh : r = 8 ∧ i < n
    · obtain ⟨rfl, hn⟩ := hh
      rw [zE_s hn]
      exact Or.inl rfl
    · rw [zE_n (by omega)]
      exact g5 i hi
theorem isE_z {M : Mm} {e : Nat} {E : Ev} (h : isE M e E) {r : Nat} (hr : r < 9 ∨ r = 14 ∨ r = 15) (n : Nat) : isE (pr M (e + r) z0 n) e (zE E r n) := by
  refine ⟨fun q hq => ?_, fun p hp => ?_⟩
  · unfold pr zE
    by_cases hqr : q = r
    · subst hqr
      simp only [if_true]
      rw [h.1 q hq]
    · have : ¬ e + q = e + r := by omega
      simp only [if_neg this, if_neg hqr]
      exact h.1 q hq
  · unfold pr zE
    have : ¬ e + 9 + 1 + 1 * p = e + r := by omega
    simp only [if_neg this]
    exact h.2 p hp
theorem isM_z {M : Mm} {b : Nat} {E : Ev} (h : isM M b E) {a r : Nat} (hr : (2 ≤ r ∧ r ≤ 8 ∧ a = b + 15 + r) ∨ (r = 1 ∧ a = b + 31) ∨ (r = 14 ∧ a = b + 29) ∨ (r = 15 ∧ a = b + 30)) (n : Nat) : isM (pr M a z0 n) b (zE E r n) := by
  obtain ⟨⟨z1, z2, z3, z4⟩, ⟨z5, z6, z7, z8⟩, z9⟩ := h
  have hb : (pr M a z0 n).1 b = M.1 b := by simp only [pr]; rw [if_neg (by omega)]
  have key : ∀ a' q : Nat, M.1 a' = E.1 q → (a' = a ↔ q = r) → (pr M a z0 n).1 a' = (zE E r n).1 q := by
    intro a' q hq hiff
    unfold pr zE
    by_cases hqr : q = r
    · have ha := hiff.mpr hqr
      subst hqr ha
      simp only [if_true]
      rw [hq]
    · have : ¬ a' = a := fun z => hqr (hiff.mp z)
      simp only [if_neg this, if_neg hqr]
      exact hq
  refine ⟨⟨?_, ?_, ?_, ?_⟩, ⟨key _ 1 z5 (by omega), key _ 14 z6 (by omega), key _ 15 z7 (by omega), fun q q0 q1 => key _ q (z8 q q0 q1) (by omega)⟩, fun p hp => ?_⟩
  · rw [hb, zE_n (by omega)]; exact z1
  · rw [hb, zE_n (by omega)]; exact z2
  · rw [hb, zE_n (by omega)]; exact z3
  · rw [hb, zE_n (by omega)]; exact z4
  · have : ¬ b + 24 + 1 + 1 * p = a := by omega
    simp only [pr, zE, if_neg this]
    exact z9 p hp
theorem pr_comm {M : Mm} {a c n i : Nat} {f : Nat → Int} {v : Int} (h : a ≠ c) : en_wI (pr M a f n) c i v = pr (en_wI M c i v) a f n := by
  have h' : c ≠ a := fun z => h z.symm
  unfold en_wI pr
  refine Prod.ext (funext fun b => ?_) rfl
  by_cases h1 : b = c
  · subst h1
    simp [h']
  · by_cases h2 : b = a
    · subst h2
      simp [h]
    · simp [h1, h2]
theorem xE_p {M M' : Mm} {a n : Nat} {f : Nat → Int} (h : xE M M') (ha : 1 ≤ a ∧ a < 17) : xE M (pr M' a f n) := ⟨fun c hc => by simp only [pr]; rw [if_neg (by omega)]; exact h.1 c hc, by simp only [pr]; rw [if_neg (by omega)]; exact h.2.1, h.2.2⟩
theorem mE_p {M M' : Mm} {a n : Nat} {f : Nat → Int} (h : mE M M') (ha : 101 ≤ a ∧ a < 158) : mE M (pr M' a f n) := ⟨fun c hc => by simp only [pr]; rw [if_neg (by omega)]; exact h.1 c hc, fun c hc => by simp only [pr]; rw [if_neg (by omega)]; exact h.2.1 c hc, h.2.2⟩
