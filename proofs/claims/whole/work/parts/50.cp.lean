/-! a call that is refused, and one that is not: what it leaves -/
def rfX (M : Mm) (k : Nat) : Mm := en_wI M 66 k (M.1 66 k + 1)
def rfM (M : Mm) (k : Nat) : Mm := en_wI M 100 (k + 2) (M.1 100 (k + 2) + 1)
def aX (M : Mm) : Nat → Mm
  | 0 => M
  | k + 1 => rfX M k
def aM (M : Mm) : Nat → Mm
  | 0 => M
  | k + 1 => rfM M k
/-- but for what a call may use for its own reckoning, the same -/
def sX (M M' : Mm) : Prop := (∀ a, a < 33 ∨ a = 62 ∨ a = 65 ∨ a = 66 ∨ 68 ≤ a → M'.1 a = M.1 a) ∧ M'.1 61 0 = M.1 61 0 ∧ ∀ a, a ≠ 64 → M'.2 a = M.2 a
def sM (M M' : Mm) : Prop := (∀ a, a < 84 ∨ (85 ≤ a ∧ a < 116) ∨ 158 ≤ a → M'.1 a = M.1 a) ∧ (∀ i, i = 7 ∨ i = 9 ∨ i = 10 ∨ i = 18 ∨ i = 23 ∨ i = 24 ∨ i = 25 → M'.1 84 i = M.1 84 i) ∧ ∀ a, a < 97 ∨ 158 ≤ a → M'.2 a = M.2 a
theorem sX_rfl {M : Mm} : sX M M := ⟨fun _ _ => rfl, rfl, fun _ _ => rfl⟩
theorem sM_rfl {M : Mm} : sM M M := ⟨fun _ _ => rfl, fun _ _ => rfl, fun _ _ => rfl⟩
theorem sX_tr {M M1 M2 : Mm} (h : sX M M1) (h' : sX M1 M2) : sX M M2 := ⟨fun a ha => (h'.1 a ha).trans (h.1 a ha), h'.2.1.trans h.2.1, fun a ha => (h'.2.2 a ha).trans (h.2.2 a ha)⟩
theorem sM_tr {M M1 M2 : Mm} (h : sM M M1) (h' : sM M1 M2) : sM M M2 := ⟨fun a ha => (h'.1 a ha).trans (h.1 a ha), fun i hi => (h'.2.1 i hi).trans (h.2.1 i hi), fun a ha => (h'.2.2 a ha).trans (h.2.2 a ha)⟩
theorem sX_fr {lo hi : Nat} {M K : Mm} (h : fr lo hi M K) (h0 : 33 ≤ lo) (h1 : hi ≤ 61) : sX M K := ⟨fun a ha => h.2 a (by omega), by rw [h.2 61 (by omega)], fun a _ => by rw [h.1]⟩
theorem sM_fr {lo hi : Nat} {M K : Mm} (h : fr lo hi M K) (h0 : 116 ≤ lo) (h1 : hi ≤ 158) : sM M K := ⟨fun a ha => h.2 a (by omega), fun i _ => by rw [h.2 84 (by omega)], fun a _ => by rw [h.1]⟩
theorem isE_sX {M K : Mm} {e : Nat} {E : Ev} (h : isE M e E) (hs : sX M K) (he : e + 16 ≤ 33) : isE K e E := isE_fr h (fun a h0 h1 => hs.1 a (by omega))
theorem isM_sM {M K : Mm} {E : Ev} (h : isM M 84 E) (hs : sM M K) : isM K 84 E := isM_fr h (fun i hi => hs.2.1 i (by omega)) (fun a h0 h1 => hs.1 a (by omega))
theorem R_refX (x : Int) (hx : -6 ≤ x ∧ x ≤ -2) (M : Mm) : en_Ct 2 0 125 [.inr (.inr (1, 5, 0)), .inl x] M (fun r M' => r = some (.inl x) ∧ M' = rfX M (-2 - x).toNat) := by
  refine ct_125 rfl ?_
  refine aw_125_0 ?_
  by_cases c1 : 0 ≤ ((-2) - x) ∧ ((-2) - x) ≤ 4
  · refine ⟨1, 0, by first | decide | omega, by first | decide | omega, en_Ct_t (R_within ((-2) - x) 0 4 (by omega) (by omega) (by omega) _) c1 ?_⟩
    refine br_eq_n (a := 1) (b := 0) (by omega) (by omega) (by omega) ?_
    refine ⟨((-2) - x).toNat, it_nn (x := (-2) - x) (by omega), (show ((-2) - x).toNat < 5 by omega), ?_⟩
    refine ⟨((-2) - x).toNat, it_nn (x := (-2) - x) (by omega), (show ((-2) - x).toNat < 5 by omega), ?_⟩
    refine aw_125_24 ?_
    exact ⟨rfl, rfl⟩
  · refine ⟨1, 0, by first | decide | omega, by first | decide | omega, en_Ct_f (R_within ((-2) - x) 0 4 (by omega) (by omega) (by omega) _) c1 ?_⟩
    refine br_eq_n (a := 0) (b := 0) (by omega) (by omega) (by omega) ?_
    refine ⟨((-2) - x).toNat, it_nn (x := (-2) - x) (by omega), (show ((-2) - x).toNat < 5 by omega), ?_⟩
    refine ⟨((-2) - x).toNat, it_nn (x := (-2) - x) (by omega), (show ((-2) - x).toNat < 5 by omega), ?_⟩
    refine aw_125_24 ?_
    exact ⟨rfl, rfl⟩
theorem R_isShelf (x : Int) (hx : -2147483648 ≤ x ∧ x < 2147483648) (M : Mm) : en_Ct 2 0 120 [.inl x] M (fun r M' => r = some (.inl (if 0 ≤ x ∧ x ≤ 7 then 1 else 0)) ∧ M' = M) := by
  refine ct_120 rfl ?_
  refine aw_120_0 ?_
  by_cases c1 : 0 ≤ x ∧ x ≤ 7
  · refine ⟨1, 0, by first | decide | omega, by first | decide | omega, en_Ct_t (R_within x 0 7 (by omega) (by omega) (by omega) _) c1 ?_⟩
    exact ⟨Or.inr rfl, by rw [if_pos (by omega)], rfl⟩
  · refine ⟨1, 0, by first | decide | omega, by first | decide | omega, en_Ct_f (R_within x 0 7 (by omega) (by omega) (by omega) _) c1 ?_⟩
    exact ⟨Or.inl rfl, by rw [if_neg (by omega)], rfl⟩
theorem R_isLetter (x : Int) (hx : -2147483648 ≤ x ∧ x < 2147483648) (M : Mm) : en_Ct 2 0 121 [.inl x] M (fun r M' => r = some (.inl (if 0 ≤ x ∧ x ≤ 25 then 1 else 0)) ∧ M' = M) := by
  refine ct_121 rfl ?_
  refine aw_121_0 ?_
  by_cases c1 : 0 ≤ x ∧ x ≤ 25
  · refine ⟨1, 0, by first | decide | omega, by first | decide | omega, en_Ct_t (R_within x 0 25 (by omega) (by omega) (by omega) _) c1 ?_⟩
    exact ⟨Or.inr rfl, by rw [if_pos (by omega)], rfl⟩
  · refine ⟨1, 0, by first | decide | omega, by first | decide | omega, en_Ct_f (R_within x 0 25 (by omega) (by omega) (by omega) _) c1 ?_⟩
    exact ⟨Or.inl rfl, by rw [if_neg (by omega)], rfl⟩
section XW
variable {M : Mm} {e : Nat} {E : Ev}
theorem X_isPerson (h : isE M e E) (hg : s_ok E) {x : Int} (hx : -2147483648 ≤ x ∧ x < 2147483648) : en_Ct 2 0 12 [.inr (.inr (1, 1, e)), .inl x] M (fun r M' => r = some (.inl (if 0 ≤ x ∧ x < E.1 0 2 then 1 else 0)) ∧ M' = M) := by
  have := R_isPerson e x hx M (tr_num h hg.1)
  rw [r0_I h] at this
  exact this
theorem X_isWord (h : isE M e E) (hg : s_ok E) {x : Int} (hx : -2147483648 ≤ x ∧ x < 2147483648) : en_Ct 2 0 11 [.inr (.inr (1, 1, e)), .inl x] M (fun r M' => r = some (.inl (if 0 ≤ x ∧ x < E.1 0 1 then 1 else 0)) ∧ M' = M) := by
  have := R_isWord e x hx M (tr_num h hg.1)
  rw [r0_I h] at this
  exact this
theorem X_isColumn (h : isE M e E) (hg : s_ok E) {x : Int} (hx : -2147483648 ≤ x ∧ x < 2147483648) : en_Ct 2 0 13 [.inr (.inr (1, 1, e)), .inl x] M (fun r M' => r = some (.inl (if 0 ≤ x ∧ x < E.1 0 0 then 1 else 0)) ∧ M' = M) := by
  have := R_isColumn e x hx M (tr_num h hg.1)
  rw [r0_I h] at this
  exact this
theorem X_wrt (h : isE M e E) (hg : s_ok E) {x : Int} (h0 : 0 ≤ x) (h1 : x < 4) {sec : Int} (hs : -2147483648 ≤ sec ∧ sec < 2147483648) : en_Ct 3 0 28 [.inr (.inr (1, 1, e)), .inl x, .inl sec] M (fun r M' => r = some (.inl ((wrt E x.toNat sec : Nat) : Int)) ∧ M' = M) := by
  have := W_wrt h hg (p := x.toNat) (by omega) hs
  rw [show ((x.toNat : Nat) : Int) = x by omega] at this
  exact this
theorem X_tot (h : isE M e E) (hg : s_ok E) {x : Int} (h0 : 0 ≤ x) (h1 : x < 4) : en_Ct 3 0 29 [.inr (.inr (1, 1, e)), .inl x] M (fun r M' => r = some (.inl (s_tot (s_can E x.toNat) (s_cost E) (s_shl E x.toNat) 0)) ∧ M' = M) := by
  have := W_tot h hg (p := x.toNat) (by omega)
  rw [show ((x.toNat : Nat) : Int) = x by omega] at this
  exact this
theorem X_fill (h : isE M e E) (hg : s_ok E) {x : Int} (h0 : 0 ≤ x) (h1 : x < 4) {l : Int} (hl : -2147483648 ≤ l ∧ l < 2147483648) : en_Ct 2 0 31 [.inr (.inr (1, 1, e)), .inl x, .inl l] M (fun r M' => r = some (.inl ((s_fill E x.toNat l : Nat) : Int)) ∧ M' = M) := by
  have := W_fill h hg (p := x.toNat) (by omega) hl
  rw [show ((x.toNat : Nat) : Int) = x by omega] at this
  exact this
theorem X_most (h : isE M e E) (hg : s_ok E) {x : Int} (h0 : 0 ≤ x) (h1 : x < 4) {l : Int} (hl : -2147483648 ≤ l ∧ l < 2147483648) : en_Ct 3 0 32 [.inr (.inr (1, 1, e)), .inl x, .inl l] M (fun r M' => r = some (.inl (if s_most E x.toNat l (E.1 0 2).toNat = true then 1 else 0)) ∧ M' = M) := by
  have := W_most h hg (p := x.toNat) (by omega) hl
  rw [show ((x.toNat : Nat) : Int) = x by omega] at this
  exact this
theorem X_kb (h : isE M e E) (hO : isO M E) (hg : s_ok E) {x : Int} (h0 : 0 ≤ x) (h1 : x < 24) : en_Ct 1 0 39 [.inr (.inr (1, 2, 49)), .inr (.inr (1, 1, e)), .inl x] M (fun r M' => r = some (.inl ((s_kb E x.toNat (E.1 0 2).toNat : Nat) : Int)) ∧ M' = M) := by
  have := R_kb e E M h hO hg x.toNat (by omega)
  rw [show ((x.toNat : Nat) : Int) = x by omega] at this
  exact this
theorem X_pin (h : isE M e E) (hO : isO M E) (hg : s_ok E) {x : Int} (h0 : 0 ≤ x) (h1 : x < E.1 0 2) {c : Int} (hc : -2147483648 ≤ c ∧ c < 2147483648) : en_Ct 3 0 42 [.inr (.inr (1, 2, 49)), .inr (.inr (1, 1, e)), .inl x, .inl c] M (fun r M' => r = some (.inl (pts E x.toNat c)) ∧ M' = M) := by
  have := R_pin e E M h hO hg x.toNat (by omega) c hc
  rw [show ((x.toNat : Nat) : Int) = x by omega] at this
  exact this
end XW
theorem tot_b {E : Ev} (hg : s_ok E) {p : Nat} (hp : p < 4) : 0 ≤ s_tot (s_can E p) (s_cost E) (s_shl E p) 0 ∧ s_tot (s_can E p) (s_cost E) (s_shl E p) 0 ≤ 370 := by
  have key : ∀ (l : List Nat) (t : Int), (∀ w ∈ l, (w : Int) < E.1 0 1) → 0 ≤ t → (0 ≤ s_tot (s_can E p) (s_cost E) l t ∧ s_tot (s_can E p) (s_cost E) l t ≤ t + 74 * (l.length : Int)) := by
    intro l
    induction l with
    | nil => intro t _ ht; simp [s_tot]; omega
    | cons w r ih =>
      intro t hw ht
      have hc := s_cost_b (hg.2.1 w (hw w (List.mem_cons_self ..)))
      have hr : ∀ x ∈ r, (x : Int) < E.1 0 1 := fun x hx => hw x (List.mem_cons_of_mem _ hx)
      unfold s_tot
      simp only [List.length_cons]
      split
      · have := ih (t + s_cost E w) hr (by omega)
        omega
      · have := ih t hr ht
        omega
  have := key (s_shl E p) 0 (shl_w hg hp) (by omega)
  have := shl_le5 hg hp
  omega
theorem R_refM (x : Int) (hx : -6 ≤ x ∧ x ≤ -2) (M : Mm) : en_Ct 1 0 140 [.inr (.inr (1, 6, 84)), .inl x] M (fun r M' => r = some (.inl x) ∧ M' = rfM M (-2 - x).toNat) := by
  refine ct_140 rfl ?_
  refine aw_140_0 ?_
  refine ⟨(-x).toNat, it_nn (x := -x) (by omega), (show (-x).toNat < 8 by omega), ?_⟩
  refine ⟨(-x).toNat, it_nn (x := -x) (by omega), (show (-x).toNat < 8 by omega), ?_⟩
  refine ⟨rfl, ?_⟩
  show en_wI M 100 ((-x).toNat) ((M.1 100 ((-x).toNat)) + 1) = _
  rw [show (-x).toNat = (-2 - x).toNat + 2 by omega]
  rfl
section MW
variable {M : Mm} {E : Ev}
theorem M_isPerson (h : isM M 84 E) (hg : s_ok E) {x : Int} (hx : -2147483648 ≤ x ∧ x < 2147483648) : en_Ct 2 0 143 [.inr (.inr (1, 6, 84)), .inl x] M (fun r M' => r = some (.inl (if 0 ≤ x ∧ x < E.1 0 2 then 1 else 0)) ∧ M' = M) := by
  have := R_isPersonM 84 x hx M (tm_num h hg.1)
  rw [h.1.2.2.1] at this
  exact this
theorem M_isWord (h : isM M 84 E) (hg : s_ok E) {x : Int} (hx : -2147483648 ≤ x ∧ x < 2147483648) : en_Ct 2 0 142 [.inr (.inr (1, 6, 84)), .inl x] M (fun r M' => r = some (.inl (if 0 ≤ x ∧ x < E.1 0 1 then 1 else 0)) ∧ M' = M) := by
  have := R_isWordM 84 x hx M (tm_num h hg.1)
  rw [h.1.2.1] at this
  exact this
theorem M_wrt (h : isM M 84 E) (hg : s_ok E) {x : Int} (h0 : 0 ≤ x) (h1 : x < 4) {sec : Int} (hs : -2147483648 ≤ sec ∧ sec < 2147483648) : en_Ct 2 0 191 [.inr (.inr (1, 6, 84)), .inl x, .inl sec] M (fun r M' => r = some (.inl ((wrt E x.toNat sec : Nat) : Int)) ∧ M' = M) := by
  have := V_wrt h hg (p := x.toNat) (by omega) hs
  rw [show ((x.toNat : Nat) : Int) = x by omega] at this
  exact this
theorem M_kpw (h : isM M 84 E) (hg : s_ok E) {x : Int} (h0 : 0 ≤ x) (h1 : x < 4) : en_Ct 4 0 197 [.inr (.inr (1, 6, 84)), .inl x] M (fun r M' => r = some (.inl ((kpw E x.toNat : Nat) : Int)) ∧ M' = M) := by
  have := R_keptOf 84 E M h hg x.toNat (by omega)
  rw [show ((x.toNat : Nat) : Int) = x by omega] at this
  exact this
theorem M_pointsAt (h : isM M 84 E) (hK : isK M 84 E) (hg : s_ok E) {x : Int} (h0 : 0 ≤ x) (h1 : x < E.1 0 2) {c : Int} (hc : 0 ≤ c ∧ c < 5) : en_Ct 2 0 201 [.inr (.inr (1, 6, 84)), .inl x, .inl c] M (fun r M' => r = some (.inl (pts E x.toNat c)) ∧ M' = M) := by
  have := R_pointsAt 84 E M h hK hg x.toNat c.toNat (by omega) (by omega)
  rw [show ((x.toNat : Nat) : Int) = x by omega, show ((c.toNat : Nat) : Int) = c by omega] at this
  exact this
end MW
