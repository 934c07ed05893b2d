/-- the second by which a person has what is needed; -1 for never -/
def hby (E : Ev) (p : Nat) : Int := s_rd (s_can E p) (s_cost E) (E.1 1 1) (-1) (s_shl E p) 0 0
theorem rd_never {E : Ev} {p : Nat} {m : Int} (hg : s_ok E) : ∀ (l : List Nat) (t n : Int), (∀ w ∈ l, (w : Int) < E.1 0 1) → 0 ≤ t → (s_rd (s_can E p) (s_cost E) m 1000000 l t n = 1000000 ∧ s_rd (s_can E p) (s_cost E) m (-1) l t n = -1) ∨ (s_rd (s_can E p) (s_cost E) m 1000000 l t n = s_rd (s_can E p) (s_cost E) m (-1) l t n ∧ 0 ≤ s_rd (s_can E p) (s_cost E) m (-1) l t n ∧ s_rd (s_can E p) (s_cost E) m (-1) l t n ≤ t + 74 * (l.length : Int))
  | [], t, n, _, _ => Or.inl ⟨rfl, rfl⟩
  | w :: r, t, n, hw, ht => by
    have hc := s_cost_b (hg.2.1 w (hw w (List.mem_cons_self ..)))
    have hr : ∀ x ∈ r, (x : Int) < E.1 0 1 := fun x hx => hw x (List.mem_cons_of_mem _ hx)
    simp only [s_rd, List.length_cons]
    split
    · split
      · exact Or.inr ⟨rfl, by omega, by omega⟩
      · rcases rd_never (p := p) (m := m) hg r (t + s_cost E w) (n + 1) hr (by omega) with h | h
        · exact Or.inl h
        · exact Or.inr ⟨h.1, h.2.1, by omega⟩
    · rcases rd_never (p := p) (m := m) hg r t n hr ht with h | h
      · exact Or.inl h
      · exact Or.inr ⟨h.1, h.2.1, by omega⟩
theorem shl_le5 {E : Ev} (hg : s_ok E) {p : Nat} (hp : p < 4) : (s_shl E p).length ≤ 5 := by
  unfold s_shl
  rw [shl_len]
  have := (hg.2.2.1 p hp).1
  omega
theorem hby_rdy {E : Ev} (hg : s_ok E) {p : Nat} (hp : p < 4) : (rdy E p = 1000000 ∧ hby E p = -1) ∨ (rdy E p = hby E p ∧ 0 ≤ hby E p ∧ hby E p ≤ 370) := by
  have hl := shl_le5 hg hp
  rcases rd_never (p := p) (m := E.1 1 1) hg (s_shl E p) 0 0 (shl_w hg hp) (by omega) with h | h
  · exact Or.inl h
  · refine Or.inr ⟨h.1, h.2.1, ?_⟩
    unfold hby
    omega
theorem cn_step {E : Ev} (hg : s_ok E) {n : Nat} (hn : n < 4) : (s_cc E (n + 1)).1 = if hby E n ≠ -1 ∧ hby E n < (s_cc E n).1 then hby E n else (s_cc E n).1 := by
  have hb := s_cc_b hg n (by omega)
  have h := hby_rdy hg hn
  by_cases hc : rdy E n < (s_cc E n).1 ∨ (rdy E n = (s_cc E n).1 ∧ (s_cc E n).2 = -1)
  · rw [cc_t hc]
    dsimp only
    split <;> omega
  · rw [cc_f hc]
    split <;> omega
theorem cc_first {E : Ev} (hg : s_ok E) : ∀ n, n ≤ 4 → (∀ q, q < n → (s_cc E n).1 ≤ rdy E q) ∧ (((s_cc E n).2 = -1 ∧ ∀ q, q < n → (s_cc E n).1 < rdy E q) ∨ ∃ k, k < n ∧ (s_cc E n).2 = (k : Int) ∧ rdy E k = (s_cc E n).1 ∧ ∀ q, q < k → (s_cc E n).1 < rdy E q)
  | 0, _ => ⟨fun q h => absurd h (Nat.not_lt_zero q), Or.inl ⟨rfl, fun q h => absurd h (Nat.not_lt_zero q)⟩⟩
  | n + 1, h => by
    obtain ⟨h1, h2⟩ := cc_first hg n (by omega)
    by_cases hc : rdy E n < (s_cc E n).1 ∨ (rdy E n = (s_cc E n).1 ∧ (s_cc E n).2 = -1)
    · rw [cc_t hc]
      dsimp only
      refine ⟨fun q hq => ?_, Or.inr ⟨n, by omega, rfl, rfl, fun q hq => ?_⟩⟩
      · by_cases hqn : q = n
        · subst hqn; omega
        · have := h1 q (by omega)
          omega
      · have h3 := h1 q hq
        rcases hc with hc | hc
        · omega
        · rcases h2 with h2 | ⟨k, k1, k2, -⟩
          · have := h2.2 q hq
            omega
          · omega
    · rw [cc_f hc]
      refine ⟨fun q hq => ?_, ?_⟩
      · by_cases hqn : q = n
        · subst hqn; omega
        · exact h1 q (by omega)
      · rcases h2 with h2 | ⟨k, k1, k2, k3, k4⟩
        · refine Or.inl ⟨h2.1, fun q hq => ?_⟩
          by_cases hqn : q = n
          · subst hqn
            have := h2.1
            omega
          · exact h2.2 q (by omega)
        · exact Or.inr ⟨k, by omega, k2, k3, k4⟩
/-- sums of a sheet's points -/
theorem pin_add {E : Ev} {p : Nat} {c : Int} : ∀ (l : List Nat) (t : Int), s_pin E p c l t = t + s_pin E p c l 0
  | [], t => by simp [s_pin]
  | w :: r, t => by
    simp only [s_pin]
    split
    · rw [pin_add r (t + s_worth E w), pin_add r (0 + s_worth E w)]
      omega
    · exact pin_add r t
def s_ps (E : Ev) (p : Nat) (l : List Nat) : Nat → Int
  | 0 => 0
  | n + 1 => s_ps E p l n + s_pin E p (n : Int) l 0
theorem ps_nil {E : Ev} {p : Nat} : ∀ n, s_ps E p [] n = 0
  | 0 => rfl
  | n + 1 => by
    unfold s_ps
    rw [ps_nil n]
    rfl
theorem ps_cons {E : Ev} {p w : Nat} {r : List Nat} (hc : 0 ≤ E.1 4 w) : ∀ n : Nat, s_ps E p (w :: r) n = (if (kpw E p).testBit w = true ∧ E.1 4 w < (n : Int) then s_worth E w else 0) + s_ps E p r n
  | 0 => by
    rw [if_neg (by omega)]
    rfl
  | n + 1 => by
    have ih := ps_cons (E := E) (p := p) (r := r) hc n
    unfold s_ps
    rw [ih]
    simp only [s_pin]
    by_cases hk : (kpw E p).testBit w = true
    · by_cases h1 : E.1 4 w < (n : Int)
      · rw [if_pos ⟨hk, h1⟩, if_neg (by omega), if_pos ⟨hk, by omega⟩]
        omega
      · by_cases h2 : E.1 4 w = (n : Int)
        · rw [if_neg (by omega), if_pos ⟨hk, Or.inr h2⟩, if_pos ⟨hk, by omega⟩, pin_add]
          omega
        · rw [if_neg (by omega), if_neg (by omega), if_neg (by omega)]
          omega
    · rw [if_neg (by simp [hk]), if_neg (by simp [hk]), if_neg (by simp [hk])]
      omega
theorem ps_all {E : Ev} {p n : Nat} : ∀ (l : List Nat), (∀ w ∈ l, 0 ≤ E.1 4 w ∧ E.1 4 w < (n : Int)) → s_ps E p l n = s_pin E p (-1) l 0
  | [], _ => ps_nil n
  | w :: r, h => by
    have hw := h w (List.mem_cons_self ..)
    rw [ps_cons hw.1, ps_all r (fun x hx => h x (List.mem_cons_of_mem _ hx))]
    simp only [s_pin]
    by_cases hk : (kpw E p).testBit w = true
    · rw [if_pos ⟨hk, hw.2⟩, if_pos ⟨hk, Or.inl trivial⟩, pin_add r (0 + s_worth E w)]
      omega
    · rw [if_neg (by simp [hk]), if_neg (by simp [hk])]
      omega
theorem pts_sum {E : Ev} (hg : s_ok E) {p : Nat} (hp : p < 4) : s_ps E p (s_shl E p) (E.1 0 0).toNat = pts E p (-1) :=
  ps_all _ (fun w hw => by
    have h := (hg.2.1 w (shl_w hg hp w hw)).2.2.1
    exact ⟨h.1, by have := h.2; omega⟩)
/-- one word of a column at most -/
theorem pin_none {E : Ev} {p : Nat} {c : Int} : ∀ (l : List Nat), (∀ w ∈ l, ¬ ((kpw E p).testBit w = true ∧ (c = -1 ∨ E.1 4 w = c))) → s_pin E p c l 0 = 0
  | [], _ => rfl
  | w :: r, h => by
    simp only [s_pin]
    rw [if_neg (h w (List.mem_cons_self ..))]
    exact pin_none r (fun x hx => h x (List.mem_cons_of_mem _ hx))
theorem pin_one {E : Ev} {p w : Nat} {c : Int} (h0 : 0 ≤ c) (hk : (kpw E p).testBit w = true) (hc : E.1 4 w = c) : ∀ (l : List Nat), w ∈ l → l.Nodup → (∀ v ∈ l, E.1 4 v = c → v = w) → s_pin E p c l 0 = s_worth E w
  | [], h, _, _ => by cases h
  | v :: r, h, hd, hu => by
    simp only [s_pin]
    rw [List.nodup_cons] at hd
    by_cases hv : v = w
    · subst hv
      rw [if_pos ⟨hk, Or.inr hc⟩, pin_add, pin_none r (fun x hx hq => ?_)]
      · omega
      · have hx1 := hu x (List.mem_cons_of_mem _ hx) (by omega)
        subst hx1
        exact hd.1 hx
    · rw [if_neg (fun hq => hv (hu v (List.mem_cons_self ..) (by omega)))]
      refine pin_one h0 hk hc r ?_ hd.2 (fun x hx => hu x (List.mem_cons_of_mem _ hx))
      rcases List.mem_cons.mp h with h | h
      · exact absurd h.symm hv
      · exact h
theorem shl_nd {f : Nat → Int} : ∀ (n i : Nat), (∀ j k : Nat, i ≤ j → j < k → k < i + n → (f j).toNat ≠ (f k).toNat) → (shl f i n).Nodup
  | 0, _, _ => List.nodup_nil
  | n + 1, i, h => by
    show ((f i).toNat :: shl f (i + 1) n).Nodup
    rw [List.nodup_cons]
    refine ⟨fun hm => ?_, shl_nd n (i + 1) (fun j k h1 h2 h3 => h j k (by omega) h2 (by omega))⟩
    obtain ⟨j, j1, j2, j3⟩ := shl_at _ _ hm
    exact h i j (by omega) (by omega) (by omega) j3.symm
theorem sheet_nd {E : Ev} (hg : s_ok E) {p : Nat} (hp : p < 4) : (s_shl E p).Nodup := shl_nd _ _ (fun j k _ h2 h3 hq => hg.2.2.2.1 p hp j k h2 (by have := (hg.2.2.1 p hp).1; omega) (by rw [hq]))
