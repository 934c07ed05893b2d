/-! a round in truth -/
def sc15 (E : Ev) (f : Nat → Int) : Ev := (fun q => if q = 15 then f else E.1 q, E.2)
section SC
variable {E : Ev} {f : Nat → Int}
theorem sc_r {r : Nat} (h : r ≠ 15) : (sc15 E f).1 r = E.1 r := by simp [sc15, h]
theorem sc_can : s_can (sc15 E f) = s_can E := rfl
theorem sc_cost : s_cost (sc15 E f) = s_cost E := rfl
theorem sc_vote : s_vote (sc15 E f) = s_vote E := rfl
theorem sc_shl : s_shl (sc15 E f) = s_shl E := rfl
theorem sc_rdy : rdy (sc15 E f) = rdy E := rfl
theorem sc_cc : ∀ n, s_cc (sc15 E f) n = s_cc E n
  | 0 => rfl
  | n + 1 => by rw [s_cc, s_cc, sc_cc n, sc_rdy]
theorem sc_call : s_call (sc15 E f) = s_call E := by unfold s_call; rw [sc_cc]; rfl
theorem sc_clr : s_clr (sc15 E f) = s_clr E := by unfold s_clr; rw [sc_cc]; rfl
theorem sc_kw {wr : Nat} : ∀ n, s_kw (sc15 E f) wr n = s_kw E wr n
  | 0 => rfl
  | n + 1 => by rw [s_kw, s_kw, sc_kw n, sc_vote, sc_r (by decide)]
theorem sc_kpw {p : Nat} : kpw (sc15 E f) p = kpw E p := by unfold kpw; rw [sc_kw, sc_call]; rfl
theorem sc_kpc {p : Nat} : kpc (sc15 E f) p = kpc E p := by unfold kpc; rw [sc_kw, sc_call]; rfl
theorem sc_kb {w : Nat} : ∀ n, s_kb (sc15 E f) w n = s_kb E w n
  | 0 => rfl
  | n + 1 => by rw [s_kb, s_kb, sc_kb n, sc_kpw]
theorem sc_hm {c : Nat} : ∀ n, s_hm (sc15 E f) c n = s_hm E c n
  | 0 => rfl
  | n + 1 => by rw [s_hm, s_hm, sc_hm n, sc_kpc]
theorem sc_worth {w : Nat} : s_worth (sc15 E f) w = s_worth E w := by unfold s_worth; rw [sc_hm, sc_kb]; rfl
theorem sc_pin {p : Nat} {c : Int} : ∀ (l : List Nat) (t : Int), s_pin (sc15 E f) p c l t = s_pin E p c l t
  | [], _ => rfl
  | w :: r, t => by rw [s_pin, s_pin, sc_kpw, sc_worth, sc_pin r, sc_r (by decide)]
theorem sc_pts {p : Nat} {c : Int} : pts (sc15 E f) p c = pts E p c := by unfold pts; rw [sc_pin, sc_shl]
theorem sc_ok (hg : s_ok E) : s_ok (sc15 E f) := hg
theorem sc_isE {M K : Mm} {e : Nat} (h : isE M e E) (hf : ∀ a, a ≠ e + 15 → K.1 a = M.1 a) : isE K e (sc15 E (K.1 (e + 15))) := ⟨fun r hr => by
  by_cases h15 : r = 15
  · subst h15; rfl
  · rw [sc_r h15, hf (e + r) (by omega)]; exact h.1 r hr, fun p hp => by rw [hf _ (by omega)]; exact h.2 p hp⟩
theorem sc_isO {M : Mm} (h : isO M E) : isO M (sc15 E f) := ⟨by rw [sc_call]; exact h.1, by rw [sc_clr]; exact h.2.1, fun q hq => by rw [sc_kpw, sc_kpc]; exact h.2.2 q hq⟩
theorem sc_isK {M : Mm} {b : Nat} (h : isK M b E) : isK M b (sc15 E f) := fun q hq => by rw [sc_kpw]; exact h q hq
theorem sc_isM {M K : Mm} {b : Nat} (h : isM M b E) (hf : ∀ a, a ≠ b + 30 → K.1 a = M.1 a) : isM K b (sc15 E (K.1 (b + 30))) := by
  obtain ⟨⟨z1, z2, z3, z4⟩, ⟨z5, z6, z7, z8⟩, z9⟩ := h
  refine ⟨⟨?_, ?_, ?_, ?_⟩, ⟨?_, ?_, rfl, fun r q0 q1 => ?_⟩, fun p hp => ?_⟩
  · rw [hf b (by omega)]; exact z1
  · rw [hf b (by omega)]; exact z2
  · rw [hf b (by omega)]; exact z3
  · rw [hf b (by omega)]; exact z4
  · rw [hf _ (by omega)]; exact z5
  · rw [hf _ (by omega)]; exact z6
  · rw [hf _ (by omega), sc_r (by omega)]; exact z8 r q0 q1
  · rw [hf _ (by omega)]; exact z9 p hp
end SC
def f15 (E : Ev) (n i : Nat) : Int := if i < n then E.1 15 i + pts E i (-1) else E.1 15 i
def f8 (E : Ev) (n : Nat) (w : Nat) : Int := if s_kb E w n = 0 then E.1 8 w else 1
def g8 (E : Ev) (n m i : Nat) : Int := if i < m then f8 E n i else E.1 8 i
def f14 (E : Ev) (n i : Nat) : Int := if i < n then 0 else E.1 14 i
def u_round (E : Ev) : Ev := (fun r => if r = 15 then f15 E (E.1 0 2).toNat else if r = 8 then g8 E (E.1 0 2).toNat (E.1 0 1).toNat else if r = 14 then f14 E (E.1 0 2).toNat else E.1 r, E.2)
theorem f15_0 {E : Ev} : f15 E 0 = E.1 15 := funext fun i => by simp [f15]
theorem f14_0 {E : Ev} : f14 E 0 = E.1 14 := funext fun i => by simp [f14]
theorem wI_row {M : Mm} {a i : Nat} {v : Int} : (en_wI M a i v).1 a = fun j => if j = i then v else M.1 a j := by simp [en_wI]
theorem f15_s {E : Ev} {n : Nat} : (fun j => if j = n then E.1 15 n + pts E n (-1) else f15 E n j) = f15 E (n + 1) := by
  funext j
  unfold f15
  by_cases h : j = n
  · subst h; simp
  · have : (j < n + 1) ↔ j < n := by omega
    simp [h, this]
theorem f14_s {E : Ev} {n : Nat} : (fun j => if j = n then 0 else f14 E n j) = f14 E (n + 1) := by
  funext j
  unfold f14
  by_cases h : j = n
  · subst h; simp
  · have : (j < n + 1) ↔ j < n := by omega
    simp [h, this]
theorem g8_s {E : Ev} {p m : Nat} : (fun j => if j = m then f8 E p m else g8 E p m j) = g8 E p (m + 1) := by
  funext j
  unfold g8
  by_cases h : j = m
  · subst h; simp
  · have : (j < m + 1) ↔ j < m := by omega
    simp [h, this]
theorem g8_n {E : Ev} {p m : Nat} (h : s_kb E m p = 0) : g8 E p (m + 1) = g8 E p m := by
  funext j
  unfold g8
  by_cases hj : j = m
  · subst hj; simp [f8, h]
  · have : (j < m + 1) ↔ j < m := by omega
    simp [this]
theorem g8_0 {E : Ev} {p : Nat} : g8 E p 0 = E.1 8 := funext fun i => by simp [g8]
theorem g8_p0 {E : Ev} {m : Nat} : g8 E 0 m = E.1 8 := funext fun i => by simp [g8, f8, s_kb]
/-- between: the first j words of person n, the rest of those ahead -/
def h8 (E : Ev) (n m j i : Nat) : Int := if i < j then f8 E (n + 1) i else g8 E n m i
theorem h8_0 {E : Ev} {n m : Nat} : h8 E n m 0 = g8 E n m := funext fun i => by simp [h8]
theorem h8_m {E : Ev} {n m : Nat} : h8 E n m m = g8 E (n + 1) m := funext fun i => by
  unfold h8 g8
  by_cases h : i < m <;> simp [h]
theorem h8_s {E : Ev} {n m j : Nat} : (fun i => if i = j then f8 E (n + 1) j else h8 E n m j i) = h8 E n m (j + 1) := by
  funext i
  unfold h8
  by_cases h : i = j
  · subst h; simp
  · have : (i < j + 1) ↔ i < j := by omega
    simp [h, this]
theorem f8_s {E : Ev} {n w : Nat} (hw : w < 31) (hn : n < 4) (h01 : E.1 8 w = 0 ∨ E.1 8 w = 1) (hk : kpw E n < 2 ^ 31) : en_or (f8 E n w) (en_and (en_shr ((kpw E n : Nat) : Int) ((w : Nat) : Int)) 1) = f8 E (n + 1) w := by
  rw [nu_bit hk hw]
  unfold f8
  have hb : (s_kb E w (n + 1) = 0) ↔ (s_kb E w n = 0 ∧ ¬ (kpw E n).testBit w = true) := by
    constructor
    · intro h
      have key : ∀ q, (s_kb E w (n + 1)).testBit q = false := fun q => by rw [h]; simp
      constructor
      · refine Nat.eq_of_testBit_eq (fun q => ?_)
        have := key q
        rw [kb_bit] at this ⊢
        by_cases hq : q < n
        · have h2 : q < n + 1 := by omega
          simp [h2] at this
          simp [this]
        · simp [hq]
      · have := key n
        rw [kb_bit] at this
        simpa using this
    · intro h
      rw [s_kb, h.1, if_neg h.2]
      rfl
  by_cases h1 : s_kb E w n = 0
  · rw [if_pos h1]
    by_cases h2 : (kpw E n).testBit w = true
    · rw [if_pos h2, if_neg (by rw [hb]; exact fun z => z.2 h2)]
      rcases h01 with h | h <;> rw [h] <;> decide
    · rw [if_neg h2, if_pos (hb.mpr ⟨h1, h2⟩)]
      rcases h01 with h | h <;> rw [h] <;> decide
  · rw [if_neg h1, if_neg (show ¬ s_kb E w (n + 1) = 0 from fun z => h1 (hb.mp z).1)]
    split <;> decide
theorem f8_01 {E : Ev} {n w : Nat} (h01 : E.1 8 w = 0 ∨ E.1 8 w = 1) : f8 E n w = 0 ∨ f8 E n w = 1 := by
  unfold f8
  split
  · exact h01
  · exact Or.inr rfl
