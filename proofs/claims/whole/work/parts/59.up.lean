/-! an evening with one number changed -/
def upr (E : Ev) (r i : Nat) (v : Int) : Ev := (fun q => if q = r then (fun j => if j = i then v else E.1 r j) else E.1 q, E.2)
def ups (E : Ev) (p i : Nat) (v : Int) : Ev := (E.1, fun q => if q = p then (fun j => if j = i then v else E.2 p j) else E.2 q)
theorem upr_s {E : Ev} {r i : Nat} {v : Int} : (upr E r i v).1 r i = v := by simp [upr]
theorem upr_n {E : Ev} {r i q j : Nat} {v : Int} (h : q ≠ r ∨ j ≠ i) : (upr E r i v).1 q j = E.1 q j := by
  unfold upr
  by_cases h1 : q = r
  · subst h1
    have : j ≠ i := by omega
    simp [this]
  · simp [h1]
theorem ups_n {E : Ev} {p i q j : Nat} {v : Int} (h : q ≠ p ∨ j ≠ i) : (ups E p i v).2 q j = E.2 q j := by
  unfold ups
  by_cases h1 : q = p
  · subst h1
    have : j ≠ i := by omega
    simp [this]
  · simp [h1]
theorem ups_s {E : Ev} {p i : Nat} {v : Int} : (ups E p i v).2 p i = v := by simp [ups]
theorem upr_c {E F : Ev} {r i q j : Nat} {v : Int} (h : E.1 q j = F.1 q j) : (upr E r i v).1 q j = (upr F r i v).1 q j := by
  by_cases hq : q = r ∧ j = i
  · obtain ⟨rfl, rfl⟩ := hq
    rw [upr_s, upr_s]
  · rw [upr_n (by omega), upr_n (by omega)]
    exact h
theorem ev_upr {E F : Ev} (h : evs E F) {r i : Nat} (hr : r ≠ 14) (v : Int) : evs (upr E r i v) (upr F r i v) := ⟨fun j hj => upr_c (h.1 j hj), fun j hj => upr_c (h.2.1 j hj), fun q j a b c => upr_c (h.2.2.1 q j a b c), fun p hp => ⟨upr_c (h.2.2.2.1 p hp).1, upr_c (h.2.2.2.1 p hp).2⟩, fun p j hp hj => h.2.2.2.2 p j hp (by rw [upr_n (Or.inl (fun z => hr z.symm))] at hj; exact hj)⟩
theorem ev_ups {E F : Ev} (h : evs E F) {p i : Nat} (v : Int) : evs (ups E p i v) (ups F p i v) := ⟨h.1, h.2.1, h.2.2.1, h.2.2.2.1, fun q j hq hj => by
  by_cases hh : q = p ∧ j = i
  · obtain ⟨rfl, rfl⟩ := hh
    rw [ups_s, ups_s]
  · rw [ups_n (by omega), ups_n (by omega)]
    exact h.2.2.2.2 q j hq hj⟩
/-- a sheet emptied, or cut to a length that is no greater -/
theorem ev_up14 {E F : Ev} (h : evs E F) {p : Nat} {v : Int} (hv : v ≤ E.1 14 p) : evs (upr E 14 p v) (upr F 14 p v) := ⟨fun j hj => upr_c (h.1 j hj), fun j hj => upr_c (h.2.1 j hj), fun q j a b c => upr_c (h.2.2.1 q j a b c), fun p hp => ⟨upr_c (h.2.2.2.1 p hp).1, upr_c (h.2.2.2.1 p hp).2⟩, fun q j hq hj => h.2.2.2.2 q j hq (by
  by_cases hh : q = p
  · subst hh
    rw [upr_s] at hj
    omega
  · rw [upr_n (by omega)] at hj
    exact hj)⟩
theorem isE_w {M : Mm} {e : Nat} {E : Ev} (h : isE M e E) {r : Nat} (hr : r < 9 ∨ r = 14 ∨ r = 15) (i : Nat) (v : Int) : isE (en_wI M (e + r) i v) e (upr E r i v) := by
  refine ⟨fun q hq => ?_, fun p hp => ?_⟩
  · unfold en_wI upr
    by_cases hqr : q = r
    · subst hqr
      simp only [if_true]
      rw [h.1 q hq]
    · have : ¬ e + q = e + r := by omega
      simp only [if_neg this, if_neg hqr]
      exact h.1 q hq
  · unfold en_wI upr
    have : ¬ e + 9 + 1 + 1 * p = e + r := by omega
    simp only [if_neg this]
    exact h.2 p hp
theorem isE_ws {M : Mm} {e : Nat} {E : Ev} (h : isE M e E) {p : Nat} (hp : p < 4) (i : Nat) (v : Int) : isE (en_wI M (e + 9 + 1 + 1 * p) i v) e (ups E p i v) := by
  refine ⟨fun q hq => ?_, fun q hq => ?_⟩
  · unfold en_wI ups
    have : ¬ e + q = e + 9 + 1 + 1 * p := by omega
    simp only [if_neg this]
    exact h.1 q hq
  · unfold en_wI ups
    by_cases hqr : q = p
    · subst hqr
      simp only [if_true]
      rw [h.2 q hq]
    · have : ¬ e + 9 + 1 + 1 * q = e + 9 + 1 + 1 * p := by omega
      simp only [if_neg this, if_neg hqr]
      exact h.2 q hq
theorem isM_w {M : Mm} {b : Nat} {E : Ev} (h : isM M b E) {a r : Nat} (hr : (2 ≤ r ∧ r ≤ 8 ∧ a = b + 15 + r) ∨ (r = 1 ∧ a = b + 31) ∨ (r = 14 ∧ a = b + 29) ∨ (r = 15 ∧ a = b + 30)) (i : Nat) (v : Int) : isM (en_wI M a i v) b (upr E r i v) := by
  obtain ⟨⟨z1, z2, z3, z4⟩, ⟨z5, z6, z7, z8⟩, z9⟩ := h
  have hb : (en_wI M a i v).1 b = M.1 b := by simp only [en_wI]; rw [if_neg (by omega)]
  have key : ∀ a' q : Nat, M.1 a' = E.1 q → (a' = a ↔ q = r) → (en_wI M a i v).1 a' = (upr E r i v).1 q := by
    intro a' q hq hiff
    unfold en_wI upr
    by_cases hqr : q = r
    · have ha := hiff.mpr hqr
      subst hqr ha
      simp only [if_true]
      rw [hq]
    · have : ¬ a' = a := fun z => hqr (hiff.mp z)
      simp only [if_neg this, if_neg hqr]
      exact hq
  refine ⟨⟨?_, ?_, ?_, ?_⟩, ⟨key _ 1 z5 (by omega), key _ 14 z6 (by omega), key _ 15 z7 (by omega), fun q q0 q1 => key _ q (z8 q q0 q1) (by omega)⟩, fun p hp => ?_⟩
  · rw [hb, upr_n (by omega)]; exact z1
  · rw [hb, upr_n (by omega)]; exact z2
  · rw [hb, upr_n (by omega)]; exact z3
  · rw [hb, upr_n (by omega)]; exact z4
  · have : ¬ b + 24 + 1 + 1 * p = a := by omega
    simp only [en_wI, upr, if_neg this]
    exact z9 p hp
theorem isM_w0 {M : Mm} {b : Nat} {E : Ev} (h : isM M b E) {s i : Nat} (hs : (s = 9 ∧ i = 0) ∨ (s = 10 ∧ i = 1) ∨ (s = 18 ∧ i = 2) ∨ (s = 23 ∧ i = 3)) (v : Int) : isM (en_wI M b s v) b (upr E 0 i v) := by
  obtain ⟨⟨z1, z2, z3, z4⟩, ⟨z5, z6, z7, z8⟩, z9⟩ := h
  have hb : ∀ a, a ≠ b → (en_wI M b s v).1 a = M.1 a := fun a ha => by simp only [en_wI]; rw [if_neg ha]
  have hu : ∀ q, q ≠ 0 → (upr E 0 i v).1 q = E.1 q := fun q hq => by simp only [upr]; rw [if_neg hq]
  have key : ∀ s' j : Nat, M.1 b s' = E.1 0 j → (s' = s ↔ j = i) → (en_wI M b s v).1 b s' = (upr E 0 i v).1 0 j := by
    intro s' j hq hiff
    unfold en_wI upr
    by_cases hji : j = i
    · have := hiff.mpr hji
      subst hji this
      simp
    · have : ¬ s' = s := fun z => hji (hiff.mp z)
      simp only [if_true, if_neg this, if_neg hji]
      exact hq
  refine ⟨⟨key 9 0 z1 (by omega), key 10 1 z2 (by omega), key 18 2 z3 (by omega), key 23 3 z4 (by omega)⟩, ⟨?_, ?_, ?_, fun q q0 q1 => ?_⟩, fun p hp => ?_⟩
  · rw [hb _ (by omega), hu 1 (by decide)]; exact z5
  · rw [hb _ (by omega), hu 14 (by decide)]; exact z6
  · rw [hb _ (by omega), hu 15 (by decide)]; exact z7
  · rw [hb _ (by omega), hu q (by omega)]; exact z8 q q0 q1
  · rw [hb _ (by omega)]; exact z9 p hp
theorem isM_ws {M : Mm} {b : Nat} {E : Ev} (h : isM M b E) {p : Nat} (hp : p < 4) (i : Nat) (v : Int) : isM (en_wI M (b + 24 + 1 + 1 * p) i v) b (ups E p i v) := by
  obtain ⟨⟨z1, z2, z3, z4⟩, ⟨z5, z6, z7, z8⟩, z9⟩ := h
  have hb : ∀ a, a ≠ b + 24 + 1 + 1 * p → (en_wI M (b + 24 + 1 + 1 * p) i v).1 a = M.1 a := fun a ha => by simp only [en_wI]; rw [if_neg ha]
  refine ⟨⟨?_, ?_, ?_, ?_⟩, ⟨?_, ?_, ?_, fun q q0 q1 => ?_⟩, fun q hq => ?_⟩
  · rw [hb _ (by omega)]; exact z1
  · rw [hb _ (by omega)]; exact z2
  · rw [hb _ (by omega)]; exact z3
  · rw [hb _ (by omega)]; exact z4
  · rw [hb _ (by omega)]; exact z5
  · rw [hb _ (by omega)]; exact z6
  · rw [hb _ (by omega)]; exact z7
  · rw [hb _ (by omega)]; exact z8 q q0 q1
  · by_cases hqp : q = p
    · subst hqp
      simp only [en_wI, ups, if_true]
      rw [z9 q hq]
    · rw [hb _ (by omega)]
      simp only [ups, if_neg hqp]
      exact z9 q hq
/-- what a call that changes the evening leaves alone, on either side -/
def xE (M M' : Mm) : Prop := (∀ a, a = 0 ∨ (17 ≤ a ∧ a < 33) ∨ a = 62 ∨ a = 65 ∨ a = 66 ∨ 68 ≤ a → M'.1 a = M.1 a) ∧ M'.1 61 0 = M.1 61 0 ∧ ∀ a, a ≠ 64 → M'.2 a = M.2 a
def mE (M M' : Mm) : Prop := (∀ a, a < 84 ∨ (85 ≤ a ∧ a < 101) ∨ 158 ≤ a → M'.1 a = M.1 a) ∧ (∀ i, i = 7 ∨ i = 24 ∨ i = 25 → M'.1 84 i = M.1 84 i) ∧ ∀ a, a < 97 ∨ 158 ≤ a → M'.2 a = M.2 a
theorem xE_rfl {M : Mm} : xE M M := ⟨fun _ _ => rfl, rfl, fun _ _ => rfl⟩
theorem mE_rfl {M : Mm} : mE M M := ⟨fun _ _ => rfl, fun _ _ => rfl, fun _ _ => rfl⟩
theorem xE_w {M M' : Mm} {a i : Nat} {v : Int} (h : xE M M') (ha : 1 ≤ a ∧ a < 17) : xE M (en_wI M' a i v) := ⟨fun c hc => by simp only [en_wI]; rw [if_neg (by omega)]; exact h.1 c hc, by simp only [en_wI]; rw [if_neg (by omega)]; exact h.2.1, h.2.2⟩
theorem mE_w {M M' : Mm} {a i : Nat} {v : Int} (h : mE M M') (ha : 101 ≤ a ∧ a < 158) : mE M (en_wI M' a i v) := ⟨fun c hc => by simp only [en_wI]; rw [if_neg (by omega)]; exact h.1 c hc, fun c hc => by simp only [en_wI]; rw [if_neg (by omega)]; exact h.2.1 c hc, h.2.2⟩
theorem mE_w0 {M M' : Mm} {i : Nat} {v : Int} (h : mE M M') (hi : i ≠ 7 ∧ i ≠ 24 ∧ i ≠ 25) : mE M (en_wI M' 84 i v) := ⟨fun c hc => by simp only [en_wI]; rw [if_neg (by omega)]; exact h.1 c hc, fun c hc => by simp only [en_wI, if_true]; rw [if_neg (by omega)]; exact h.2.1 c hc, h.2.2⟩
theorem isE_evs {M : Mm} {e : Nat} {E : Ev} (h : isE M e E) : evs (vE M e) E := ⟨fun i _ => congrFun (h.1 0 (by omega)) i, fun i _ => congrFun (h.1 1 (by omega)) i, fun r i _ h8 _ => congrFun (h.1 r (by omega)) i, fun p _ => ⟨congrFun (h.1 14 (by omega)) p, congrFun (h.1 15 (by omega)) p⟩, fun p i hp _ => congrFun (h.2 p hp) i⟩
theorem same_up {kx km hx hm : Nat} {as : List AV} {f : Ev → Nat × Int} {u : Ev → Ev} (h60 : hx < 60) (g60 : hm < 60)
    (hX : ∀ E M, isE M 1 E → s_ok E → en_Ct hx 0 kx (.inr (.inr (1, 5, 0)) :: as) M (fun r M' => r = some (.inl (f E).2) ∧ (((f E).1 ≠ 0 ∧ sX (aX M (f E).1) M') ∨ ((f E).1 = 0 ∧ xE M M' ∧ isE M' 1 (u E)))))
    (hM : ∀ E M, isM M 84 E → s_ok E → en_Ct hm 0 km (.inr (.inr (1, 6, 84)) :: as) M (fun r M' => r = some (.inl (f E).2) ∧ (((f E).1 ≠ 0 ∧ sM (aM M (f E).1) M') ∨ ((f E).1 = 0 ∧ mE M M' ∧ isM M' 84 (u E)))))
    (hv : ∀ E F, evs E F → s_ok E → f E = f F) (hk : ∀ E, (f E).1 ≤ 5) (hu : ∀ E F, evs E F → s_ok E → (f E).1 = 0 → evs (u E) (u F) ∧ s_ok (u E) ∧ E.1 0 1 ≤ (u E).1 0 1) : sameC kx km as := by
  intro M hc
  refine ⟨hx, h60, en_Ct_mono (hX (vE M 1) M isE_self hc.1.1) ?_⟩
  rintro r M1 ⟨rfl, hs⟩
  have e := hv _ _ hc.1.2 hc.1.1
  have hg := ev_ok hc.1.2 hc.1.1
  have h84 : ∀ a, 84 ≤ a → M1.1 a = M.1 a := by
    intro a ha
    rcases hs with ⟨-, hs⟩ | ⟨-, hs, -⟩
    · exact (hs.1 a (by omega)).trans (aX_84 a ha)
    · exact hs.1 a (by omega)
  refine ⟨_, rfl, hm, 0, g60, Nat.zero_le _, en_Ct_mono (hM (vM M 84) M1 (isM_x isM_self h84) hg) ?_⟩
  rintro r M2 ⟨rfl, hs2⟩
  rw [← e] at hs2 ⊢
  rcases hs with ⟨h0, hs⟩ | ⟨h0, hs, hs'⟩
  · rcases hs2 with ⟨-, hs2⟩ | ⟨z, -⟩
    · cases hq : (f (vE M 1)).1 with
      | zero => exact absurd hq h0
      | succ k =>
        rw [hq] at hs hs2
        have := hk (vE M 1)
        refine ⟨rfl, cpl_ro (cpl_rf hc (k := k) (by omega)) (sX_rfM hs) hs2, ?_⟩
        rw [bl_eq (M1 := M2) (M := M) (fun i hi => by rw [hs2.2.1 i (by omega)]; show (rfM M1 k).1 84 i = _; simp only [rfM, en_wI]; exact congrFun (h84 84 (by omega)) i)]
        omega
    · exact absurd z h0
  · rcases hs2 with ⟨z, -⟩ | ⟨-, hs2, hs2'⟩
    · exact absurd h0 z
    · obtain ⟨u1, u2, u3⟩ := hu _ _ hc.1.2 hc.1.1 h0
      have v1 : evs (vE M2 1) (u (vE M 1)) := evs_tr (vE_fr (fun a z0 z1 => hs2.1 a (by omega))) (isE_evs hs')
      refine ⟨rfl, cpl_E hc ⟨fun a ha => (hs2.1 a (by omega)).trans (hs.1 a (by omega)), by rw [hs2.1 61 (by omega)]; exact hs.2.1, ⟨by rw [hs2.2.1 7 (by omega), h84 84 (by omega)], by rw [hs2.2.1 24 (by omega), h84 84 (by omega)]⟩, fun a ha => (hs2.2.2 a (by omega)).trans (hs.2.2 a (by omega))⟩ ?_ (ev_ok (evs_symm v1) u2) (evs_tr v1 (evs_tr u1 (evs_symm (isM_vM hs2')))), ?_⟩
      · have := v1.1 1 (by decide)
        show (vE M 1).1 0 1 ≤ (vE M2 1).1 0 1
        omega
      · rw [bl_eq (M1 := M2) (M := M) (fun i hi => by rw [hs2.2.1 i (by omega), h84 84 (by omega)])]
        omega
