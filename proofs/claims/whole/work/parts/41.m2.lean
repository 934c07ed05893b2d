/-! the reference's round -/
def isK (M : Mm) (b : Nat) (E : Ev) : Prop := ∀ q : Nat, (q : Int) < E.1 0 2 → M.1 (b + 34) q = ((kpw E q : Nat) : Int)
/-- the reference's block says an evening E -/
def isM (M : Mm) (b : Nat) (E : Ev) : Prop := (M.1 b 9 = E.1 0 0 ∧ M.1 b 10 = E.1 0 1 ∧ M.1 b 18 = E.1 0 2 ∧ M.1 b 23 = E.1 0 3) ∧ (M.1 (b + 31) = E.1 1 ∧ M.1 (b + 29) = E.1 14 ∧ M.1 (b + 30) = E.1 15 ∧ ∀ r, 2 ≤ r → r ≤ 8 → M.1 (b + 15 + r) = E.1 r) ∧ ∀ p, p < 4 → M.1 (b + 24 + 1 + 1 * p) = E.2 p
theorem isM_self {M : Mm} {b : Nat} : isM M b (vM M b) := ⟨⟨rfl, rfl, rfl, rfl⟩, ⟨rfl, rfl, rfl, fun r h0 h1 => by rcases (show r = 2 ∨ r = 3 ∨ r = 4 ∨ r = 5 ∨ r = 6 ∨ r = 7 ∨ r = 8 by omega) with rfl | rfl | rfl | rfl | rfl | rfl | rfl <;> rfl⟩, fun _ _ => rfl⟩
theorem isM_fr {M K : Mm} {b : Nat} {E : Ev} (h : isM M b E) (h0 : ∀ i, i = 9 ∨ i = 10 ∨ i = 18 ∨ i = 23 → K.1 b i = M.1 b i) (hr : ∀ a, b + 17 ≤ a → a < b + 32 → K.1 a = M.1 a) : isM K b E := by
  obtain ⟨⟨z1, z2, z3, z4⟩, ⟨z5, z6, z7, z8⟩, z9⟩ := h
  refine ⟨⟨?_, ?_, ?_, ?_⟩, ⟨?_, ?_, ?_, fun r q0 q1 => ?_⟩, fun p hp => ?_⟩
  · rw [h0 9 (by omega)]; exact z1
  · rw [h0 10 (by omega)]; exact z2
  · rw [h0 18 (by omega)]; exact z3
  · rw [h0 23 (by omega)]; exact z4
  · rw [hr _ (by omega) (by omega)]; exact z5
  · rw [hr _ (by omega) (by omega)]; exact z6
  · rw [hr _ (by omega) (by omega)]; exact z7
  · rw [hr _ (by omega) (by omega)]; exact z8 r q0 q1
  · rw [hr _ (by omega) (by omega)]; exact z9 p hp
section TM
variable {M : Mm} {b : Nat} {E : Ev}
theorem tm_0 (h : isM M b E) : (vM M b).1 0 0 = E.1 0 0 ∧ (vM M b).1 0 1 = E.1 0 1 ∧ (vM M b).1 0 2 = E.1 0 2 := ⟨h.1.1, h.1.2.1, h.1.2.2.1⟩
theorem tm_1 (h : isM M b E) : (vM M b).1 1 = E.1 1 := h.2.1.1
theorem tm_14 (h : isM M b E) : (vM M b).1 14 = E.1 14 := h.2.1.2.1
theorem tm_r (h : isM M b E) (r : Nat) (h2 : 2 ≤ r) (h8 : r ≤ 8) : (vM M b).1 r = E.1 r := by
  rw [← h.2.1.2.2.2 r h2 h8]
  rcases (show r = 2 ∨ r = 3 ∨ r = 4 ∨ r = 5 ∨ r = 6 ∨ r = 7 ∨ r = 8 by omega) with rfl | rfl | rfl | rfl | rfl | rfl | rfl <;> rfl
theorem tm_s (h : isM M b E) {p : Nat} (hp : p < 4) : (vM M b).2 p = E.2 p := h.2.2 p hp
theorem tm_kn (h : isM M b E) (p w : Nat) : s_kn (vM M b) p w = s_kn E p w := by unfold s_kn; rw [tm_r h 7 (by decide) (by decide)]
theorem tm_bar (h : isM M b E) (w : Nat) : s_bar (vM M b) w = s_bar E w := by unfold s_bar; rw [tm_1 h, tm_r h 8 (by decide) (by decide)]
theorem tm_can (h : isM M b E) : s_can (vM M b) = s_can E := by
  funext p w
  unfold s_can
  rw [tm_r h 3 (by decide) (by decide), tm_1 h, tm_r h 4 (by decide) (by decide), (tm_0 h).1, tm_kn h, tm_bar h]
theorem tm_cost (h : isM M b E) : s_cost (vM M b) = s_cost E := by
  funext w
  unfold s_cost
  rw [tm_r h 2 (by decide) (by decide), tm_r h 5 (by decide) (by decide), tm_r h 6 (by decide) (by decide)]
theorem tm_shl (h : isM M b E) {p : Nat} (hp : p < 4) : s_shl (vM M b) p = s_shl E p := by
  unfold s_shl
  rw [tm_14 h, tm_s h hp]
theorem tm_num (h : isM M b E) (hn : s_num E) : s_num (vM M b) := by
  unfold s_num at hn ⊢
  rw [(tm_0 h).1, (tm_0 h).2.1, (tm_0 h).2.2, tm_1 h]
  exact hn
theorem tm_wok (h : isM M b E) (hw : s_wok E) : s_wok (vM M b) := fun w hq => by
  have := hw w (by rw [(tm_0 h).2.1] at hq; exact hq)
  unfold s_word at this ⊢
  rw [(tm_0 h).1, tm_r h 2 (by decide) (by decide), tm_r h 3 (by decide) (by decide), tm_r h 4 (by decide) (by decide), tm_r h 5 (by decide) (by decide), tm_r h 6 (by decide) (by decide), tm_r h 7 (by decide) (by decide), tm_r h 8 (by decide) (by decide)]
  exact this
theorem tm_sh (h : isM M b E) {p : Nat} (hp : p < 4) (hs : s_sh E p) : s_sh (vM M b) p := by
  unfold s_sh at hs ⊢
  rw [tm_14 h, (tm_0 h).2.1, tm_s h hp]
  exact hs
theorem V_hasBy (h : isM M b E) (hg : s_ok E) {p : Nat} (hp : p < 4) : en_Ct 2 0 190 [.inr (.inr (1, 6, b)), .inl ((p : Nat) : Int), .inl (M.1 (b + 31) 1)] M (fun r M' => r = some (.inl (hby E p)) ∧ M' = M) := by
  have := R_hasBy b p M hp (tm_num h hg.1) (tm_wok h hg.2.1) (tm_sh h hp (hg.2.2.1 p hp)) (M.1 (b + 31) 1) (by rw [h.2.1.1]; have := hg.1.2.2.2.2.1; omega)
  rw [tm_can h, tm_cost h, tm_shl h hp] at this
  unfold hby
  rw [← h.2.1.1]
  exact this
theorem V_wrt (h : isM M b E) (hg : s_ok E) {p : Nat} (hp : p < 4) {sec : Int} (hs : -2147483648 ≤ sec ∧ sec < 2147483648) : en_Ct 2 0 191 [.inr (.inr (1, 6, b)), .inl ((p : Nat) : Int), .inl sec] M (fun r M' => r = some (.inl ((wrt E p sec : Nat) : Int)) ∧ M' = M) := by
  have := R_writtenM b p M hp (tm_num h hg.1) (tm_wok h hg.2.1) (tm_sh h hp (hg.2.2.1 p hp)) sec hs
  unfold wrt at this ⊢
  rw [tm_can h, tm_cost h, tm_shl h hp] at this
  exact this
theorem V_cost (h : isM M b E) (hg : s_ok E) {x : Int} (h0 : 0 ≤ x) (h1 : x < E.1 0 1) : en_Ct 1 0 189 [.inr (.inr (1, 6, b)), .inl x] M (fun r M' => r = some (.inl (s_cost E x.toNat)) ∧ M' = M) := by
  have := R_takesOf' b x M h0 (by rw [h.1.2.1]; exact h1) (tm_wok h hg.2.1) (tm_num h hg.1)
  rw [tm_cost h] at this
  exact this
theorem V_can (h : isM M b E) (hg : s_ok E) {p : Nat} {x : Int} (hp : p < 4) (h0 : 0 ≤ x) (h1 : x < E.1 0 1) : en_Ct 1 0 164 [.inr (.inr (1, 6, b)), .inl ((p : Nat) : Int), .inl x] M (fun r M' => r = some (.inl (if s_can E p x.toNat = true then 1 else 0)) ∧ M' = M) := by
  have := R_mayBe' b p x M hp h0 (by rw [h.1.2.1]; exact h1) (tm_wok h hg.2.1) (tm_num h hg.1)
  rw [tm_can h] at this
  exact this
/-- the numbers of an evening, as the block has them -/
theorem nm_J (h : isM M b E) (hg : s_ok E) : (1 ≤ M.1 b 9 ∧ M.1 b 9 ≤ 5) ∧ (0 ≤ M.1 b 10 ∧ M.1 b 10 ≤ 24) ∧ (0 ≤ M.1 b 18 ∧ M.1 b 18 ≤ 4) ∧ (0 ≤ M.1 (b + 31) 0 ∧ M.1 (b + 31) 0 ≤ 25) ∧ (1 ≤ M.1 (b + 31) 1 ∧ M.1 (b + 31) 1 ≤ 5) ∧ (1 ≤ M.1 (b + 31) 2 ∧ M.1 (b + 31) 2 ≤ 600) ∧ (0 ≤ M.1 (b + 31) 3 ∧ M.1 (b + 31) 3 ≤ 50) ∧ (0 ≤ M.1 (b + 31) 4 ∧ M.1 (b + 31) 4 ≤ 50) ∧ (0 ≤ M.1 (b + 31) 5 ∧ M.1 (b + 31) 5 ≤ 50) ∧ (0 ≤ M.1 (b + 31) 6 ∧ M.1 (b + 31) 6 ≤ 1) ∧ (0 ≤ M.1 (b + 31) 7 ∧ M.1 (b + 31) 7 ≤ 1) := by
  obtain ⟨n0, n1, n2, a0, a1, a2, a3, a4, a5, a6, a7⟩ := nm_M (tm_num h hg.1)
  exact ⟨n0, n1, n2, a0, a1, a2, a3, a4, a5, by omega, by omega⟩
end TM
theorem isM_k {M K : Mm} {b : Nat} {E : Ev} (h : isM M b E) (hf : fr (b + 34) (b + 35) M K) : isM K b E := isM_fr h (fun i _ => by rw [hf.2 b (by omega)]) (fun a h0 h1 => hf.2 a (by omega))
theorem L_callNow {post : Option AV → Mm → Prop} (b : Nat) (E : Ev) (M : Mm) (hJ : isM M b E) (hg : s_ok E) (hq : post (some (.inl (s_call E))) M) : ∀ (n : Nat) (i : Nat), (((i : Nat) : Int) + ((n : Nat) : Int) = E.1 0 2) → en_AW 3 0 192 post 9 [some (.inr (.inr (1, 6, b))), some (.inl ((s_cc E i).1)), some (.inl ((i : Nat) : Int)), none] [] M 0 := by
  intro n
  induction n with
  | zero =>
    intro i hi
    obtain ⟨n0, n1, n2, a0, a1, a2, a3, a4, a5, a6, a7⟩ := nm_J hJ hg
    have r0 : M.1 b 9 = E.1 0 0 := hJ.1.1
    have r1 : M.1 b 10 = E.1 0 1 := hJ.1.2.1
    have r2 : M.1 b 18 = E.1 0 2 := hJ.1.2.2.1
    have r3 : M.1 (b + 31) = E.1 1 := hJ.2.1.1
    refine aw_192_9 ?_
    refine br_ge_y (a := ((i : Nat) : Int)) (b := M.1 b 18) (by omega) (by omega) (by omega) ?_
    refine aw_192_51 ?_
    rw [s_call, show (E.1 0 2).toNat = i by omega] at hq
    exact hq
  | succ n ih =>
    intro i hi
    obtain ⟨n0, n1, n2, a0, a1, a2, a3, a4, a5, a6, a7⟩ := nm_J hJ hg
    have r0 : M.1 b 9 = E.1 0 0 := hJ.1.1
    have r1 : M.1 b 10 = E.1 0 1 := hJ.1.2.1
    have r2 : M.1 b 18 = E.1 0 2 := hJ.1.2.2.1
    have r3 : M.1 (b + 31) = E.1 1 := hJ.2.1.1
    have hb := s_cc_b hg i (by omega)
    refine aw_192_9 ?_
    refine br_ge_n (a := ((i : Nat) : Int)) (b := M.1 b 18) (by omega) (by omega) (by omega) ?_
    refine ⟨1, rfl, (show 1 < 8 by omega), ?_⟩
    refine ⟨2, 0, by first | decide | omega, by first | decide | omega, en_Ct_eq (V_hasBy (b := b) (E := E) (M := M) hJ hg (p := i) (by omega)) ?_⟩
    have hr2 := hby_rdy hg (p := i) (by omega)
    refine br_eq (a := hby E i) (b := (-1)) (by omega) (by omega) (fun q3 => ?_) (fun q3 => ?_)
    · refine aw_192_43 ?_
      refine aw_192_44 ?_
      refine en_AW_drop [true, true, true, false] ?_
      refine en_AW_ls (congrArg (fun z_ : Int => ([some (.inr (.inr (1, 6, b))), some (.inl z_), some (.inl (((i : Nat) : Int) + 1)), none] : AL)) (show (s_cc E i).1 = (s_cc E (i + 1)).1 from by rw [cn_step hg (by omega)]; exact (if_neg (by omega)).symm)) ?_
      exact ih (i + 1) (by omega)
    · refine br_ge (a := hby E i) (b := (s_cc E i).1) (by omega) (by omega) (fun q4 => ?_) (fun q4 => ?_)
      · refine aw_192_43 ?_
        refine aw_192_44 ?_
        refine en_AW_drop [true, true, true, false] ?_
        refine en_AW_ls (congrArg (fun z_ : Int => ([some (.inr (.inr (1, 6, b))), some (.inl z_), some (.inl (((i : Nat) : Int) + 1)), none] : AL)) (show (s_cc E i).1 = (s_cc E (i + 1)).1 from by rw [cn_step hg (by omega)]; exact (if_neg (by omega)).symm)) ?_
        exact ih (i + 1) (by omega)
      · refine aw_192_44 ?_
        refine en_AW_drop [true, true, true, false] ?_
        refine en_AW_ls (congrArg (fun z_ : Int => ([some (.inr (.inr (1, 6, b))), some (.inl z_), some (.inl (((i : Nat) : Int) + 1)), none] : AL)) (show hby E i = (s_cc E (i + 1)).1 from by rw [cn_step hg (by omega)]; exact (if_pos (by omega)).symm)) ?_
        exact ih (i + 1) (by omega)
theorem R_callNow (b : Nat) (E : Ev) (M : Mm) (hJ : isM M b E) (hg : s_ok E) : en_Ct 3 0 192 [.inr (.inr (1, 6, b))] M (fun r M' => r = some (.inl (s_call E)) ∧ M' = M) := by
  obtain ⟨n0, n1, n2, a0, a1, a2, a3, a4, a5, a6, a7⟩ := nm_J hJ hg
  have r0 : M.1 b 9 = E.1 0 0 := hJ.1.1
  have r1 : M.1 b 10 = E.1 0 1 := hJ.1.2.1
  have r2 : M.1 b 18 = E.1 0 2 := hJ.1.2.2.1
  have r3 : M.1 (b + 31) = E.1 1 := hJ.2.1.1
  refine ct_192 rfl ?_
  refine aw_192_0 ?_
  refine ⟨2, rfl, (show 2 < 8 by omega), ?_⟩
  refine en_AW_ls (congrArg (fun z_ : Int => ([some (.inr (.inr (1, 6, b))), some (.inl z_), some (.inl 0), none] : AL)) (show M.1 (b + 31) 2 = (s_cc E 0).1 from congrFun r3 2)) ?_
  exact L_callNow b E M hJ hg ⟨rfl, rfl⟩ (E.1 0 2).toNat 0 (by omega)
theorem call_b {E : Ev} (hg : s_ok E) : 0 ≤ s_call E ∧ s_call E ≤ 600 := (s_cc_b hg _ (by have := hg.1.2.2.1; omega)).1
theorem clr_b {E : Ev} (hg : s_ok E) : -1 ≤ s_clr E ∧ s_clr E < E.1 0 2 := by
  have := hg.1.2.2.1
  have h := (s_cc_b hg (E.1 0 2).toNat (by omega)).2
  unfold s_clr
  omega
theorem clr_at {E : Ev} (hg : s_ok E) {i : Nat} (hi : (i : Int) < E.1 0 2) (h : rdy E i ≤ s_call E) (ha : ∀ q, q < i → s_call E < rdy E q) : s_clr E = (i : Int) := by
  have hn := hg.1.2.2.1
  obtain ⟨h1, h2⟩ := cc_first hg (E.1 0 2).toNat (by omega)
  unfold s_call at h ha
  rcases h2 with h2 | ⟨k, k1, k2, k3, k4⟩
  · have := h2.2 i (by omega)
    omega
  · rcases Nat.lt_trichotomy k i with z | z | z
    · have := ha k z
      omega
    · subst z; exact k2
    · have := k4 i z
      omega
theorem clr_no {E : Ev} (hg : s_ok E) (ha : ∀ q, q < (E.1 0 2).toNat → s_call E < rdy E q) : s_clr E = -1 := by
  have hn := hg.1.2.2.1
  obtain ⟨h1, h2⟩ := cc_first hg (E.1 0 2).toNat (by omega)
  unfold s_call at ha
  rcases h2 with h2 | ⟨k, k1, k2, k3, k4⟩
  · exact h2.1
  · have := ha k k1
    omega
theorem L_callerNow {post : Option AV → Mm → Prop} (b : Nat) (E : Ev) (M : Mm) (hJ : isM M b E) (hg : s_ok E) (hq : post (some (.inl (s_clr E))) M) : ∀ (n : Nat) (i : Nat), (((i : Nat) : Int) + ((n : Nat) : Int) = E.1 0 2) → (∀ q, q < i → s_call E < rdy E q) → en_AW 4 0 193 post 7 [some (.inr (.inr (1, 6, b))), some (.inl (s_call E)), some (.inl ((i : Nat) : Int)), none] [] M 0 := by
  intro n
  induction n with
  | zero =>
    intro i hi ha
    obtain ⟨n0, n1, n2, a0, a1, a2, a3, a4, a5, a6, a7⟩ := nm_J hJ hg
    have r0 : M.1 b 9 = E.1 0 0 := hJ.1.1
    have r1 : M.1 b 10 = E.1 0 1 := hJ.1.2.1
    have r2 : M.1 b 18 = E.1 0 2 := hJ.1.2.2.1
    have r3 : M.1 (b + 31) = E.1 1 := hJ.2.1.1
    refine aw_193_7 ?_
    refine br_ge_y (a := ((i : Nat) : Int)) (b := M.1 b 18) (by omega) (by omega) (by omega) ?_
    refine aw_193_45 ?_
    rw [clr_no hg (by rw [show (E.1 0 2).toNat = i by omega]; exact ha)] at hq
    exact hq
  | succ n ih =>
    intro i hi ha
    obtain ⟨n0, n1, n2, a0, a1, a2, a3, a4, a5, a6, a7⟩ := nm_J hJ hg
    have r0 : M.1 b 9 = E.1 0 0 := hJ.1.1
    have r1 : M.1 b 10 = E.1 0 1 := hJ.1.2.1
    have r2 : M.1 b 18 = E.1 0 2 := hJ.1.2.2.1
    have r3 : M.1 (b + 31) = E.1 1 := hJ.2.1.1
    have hb := call_b hg
    refine aw_193_7 ?_
    refine br_ge_n (a := ((i : Nat) : Int)) (b := M.1 b 18) (by omega) (by omega) (by omega) ?_
    refine ⟨1, rfl, (show 1 < 8 by omega), ?_⟩
    refine ⟨2, 0, by first | decide | omega, by first | decide | omega, en_Ct_eq (V_hasBy (b := b) (E := E) (M := M) hJ hg (p := i) (by omega)) ?_⟩
    have hr2 := hby_rdy hg (p := i) (by omega)
    refine br_eq (a := hby E i) (b := (-1)) (by omega) (by omega) (fun q3 => ?_) (fun q3 => ?_)
    · refine aw_193_39 ?_
      refine en_AW_drop [true, true, true, false] ?_
      exact ih (i + 1) (by omega) (fun q hq => (Nat.lt_succ_iff_lt_or_eq.mp hq).elim (ha q) (fun z => by subst z; omega))
    · refine br_gt (a := hby E i) (b := s_call E) (by omega) (by omega) (fun q4 => ?_) (fun q4 => ?_)
      · refine aw_193_39 ?_
        refine en_AW_drop [true, true, true, false] ?_
        exact ih (i + 1) (by omega) (fun q hq => (Nat.lt_succ_iff_lt_or_eq.mp hq).elim (ha q) (fun z => by subst z; omega))
      · rw [clr_at hg (i := i) (by omega) (by omega) ha] at hq
        exact hq
theorem R_callerNow (b : Nat) (E : Ev) (M : Mm) (hJ : isM M b E) (hg : s_ok E) : en_Ct 4 0 193 [.inr (.inr (1, 6, b))] M (fun r M' => r = some (.inl (s_clr E)) ∧ M' = M) := by
  obtain ⟨n0, n1, n2, a0, a1, a2, a3, a4, a5, a6, a7⟩ := nm_J hJ hg
  have r0 : M.1 b 9 = E.1 0 0 := hJ.1.1
  have r1 : M.1 b 10 = E.1 0 1 := hJ.1.2.1
  have r2 : M.1 b 18 = E.1 0 2 := hJ.1.2.2.1
  have r3 : M.1 (b + 31) = E.1 1 := hJ.2.1.1
  refine ct_193 rfl ?_
  refine aw_193_0 ?_
  refine ⟨3, 0, by first | decide | omega, by first | decide | omega, en_Ct_eq (R_callNow b E M hJ hg) ?_⟩
  have kb1 := call_b hg
  exact L_callerNow b E M hJ hg ⟨rfl, rfl⟩ (E.1 0 2).toNat 0 (by omega) (fun q hq => absurd hq (Nat.not_lt_zero q))
theorem kpw_of {E : Ev} (hg : s_ok E) {p c : Nat} (hp : p < 4) (h : ∀ j, c.testBit j = ((wrt E p (s_call E)).testBit j && (decide ((E.1 0 1).toNat ≤ j) || s_vote E j))) : c = kpw E p := by
  refine Nat.eq_of_testBit_eq (fun j => ?_)
  rw [h j, kpw_bit]
  by_cases hj : j < (E.1 0 1).toNat
  · have : ¬ (E.1 0 1).toNat ≤ j := by omega
    simp [hj, this]
  · have h1 : (wrt E p (s_call E)).testBit j = false := by
      by_cases hw : (wrt E p (s_call E)).testBit j = true
      · have := shl_w hg hp j (wrt_mem hw)
        omega
      · exact Bool.not_eq_true _ ▸ hw
    rw [h1]
    simp
theorem vote_M {E : Ev} {w : Nat} : s_vote E w = true ↔ ¬ (E.1 1 6 ≠ 0 ∧ E.1 2 w = 4 ∧ 2 * ((s_pc (E.1 7 w).toNat : Nat) : Int) < E.1 0 2) := by
  unfold s_vote
  rw [Bool.or_eq_true, Bool.or_eq_true, decide_eq_true_eq, decide_eq_true_eq, Bool.not_eq_true', decide_eq_false_iff_not]
  omega
theorem ko_t {wr c i : Nat} {v : Nat → Bool} (h : ∀ j, c.testBit j = (wr.testBit j && (decide (i ≤ j) || v j))) (hv : v i = true) : ∀ j, c.testBit j = (wr.testBit j && (decide (i + 1 ≤ j) || v j)) := by
  intro j
  rw [h j]
  by_cases hj : j = i
  · subst hj; simp [hv]
  · have : decide (i + 1 ≤ j) = decide (i ≤ j) := decide_eq_decide.mpr (by omega)
    rw [this]
theorem ko_f {wr c d i : Nat} {v : Nat → Bool} (h : ∀ j, c.testBit j = (wr.testBit j && (decide (i ≤ j) || v j))) (hd : ∀ j, d.testBit j = (c.testBit j && !decide (j = i))) (hv : ¬ v i = true) : ∀ j, d.testBit j = (wr.testBit j && (decide (i + 1 ≤ j) || v j)) := by
  intro j
  rw [hd j, h j]
  by_cases hj : j = i
  · subst hj
    rw [Bool.not_eq_true] at hv
    simp [hv]
  · have : decide (i + 1 ≤ j) = decide (i ≤ j) := decide_eq_decide.mpr (by omega)
    rw [this]
    simp [hj]
theorem L_keptOf {post : Option AV → Mm → Prop} (b : Nat) (E : Ev) (M : Mm) (hJ : isM M b E) (hg : s_ok E) (p : Nat) (hp : p < 4) (hq : post (some (.inl ((kpw E p : Nat) : Int))) M) : ∀ (n : Nat) (i : Nat) (c : Nat), (((i : Nat) : Int) + ((n : Nat) : Int) = E.1 0 1) → (c < 2 ^ 24) → (∀ j, c.testBit j = ((wrt E p (s_call E)).testBit j && (decide (i ≤ j) || s_vote E j))) → en_AW 4 0 197 post 12 [some (.inr (.inr (1, 6, b))), some (.inl ((p : Nat) : Int)), some (.inl ((c : Nat) : Int)), some (.inl ((i : Nat) : Int)), none] [] M 0 := by
  intro n
  induction n with
  | zero =>
    intro i c hi hc hk
    obtain ⟨n0, n1, n2, a0, a1, a2, a3, a4, a5, a6, a7⟩ := nm_J hJ hg
    have r0 : M.1 b 9 = E.1 0 0 := hJ.1.1
    have r1 : M.1 b 10 = E.1 0 1 := hJ.1.2.1
    have r2 : M.1 b 18 = E.1 0 2 := hJ.1.2.2.1
    have r3 : M.1 (b + 31) = E.1 1 := hJ.2.1.1
    refine aw_197_12 ?_
    refine br_ge_y (a := ((i : Nat) : Int)) (b := M.1 b 10) (by omega) (by omega) (by omega) ?_
    refine aw_197_89 ?_
    rw [← kpw_of hg hp (by rw [show (E.1 0 1).toNat = i by omega]; exact hk)] at hq
    exact hq
  | succ n ih =>
    intro i c hi hc hk
    obtain ⟨n0, n1, n2, a0, a1, a2, a3, a4, a5, a6, a7⟩ := nm_J hJ hg
    have r0 : M.1 b 9 = E.1 0 0 := hJ.1.1
    have r1 : M.1 b 10 = E.1 0 1 := hJ.1.2.1
    have r2 : M.1 b 18 = E.1 0 2 := hJ.1.2.2.1
    have r3 : M.1 (b + 31) = E.1 1 := hJ.2.1.1
    obtain ⟨k1, k2, k3, k4, k5, k6, k7⟩ := hg.2.1 i (by omega)
    have e2 : M.1 (b + 17) i = E.1 2 i := congrFun (hJ.2.1.2.2.2 2 (by decide) (by decide)) i
    have e7 : M.1 (b + 22) i = E.1 7 i := congrFun (hJ.2.1.2.2.2 7 (by decide) (by decide)) i
    have e6 : M.1 (b + 31) 6 = E.1 1 6 := congrFun r3 6
    refine aw_197_12 ?_
    refine br_ge_n (a := ((i : Nat) : Int)) (b := M.1 b 10) (by omega) (by omega) (by omega) ?_
    refine ⟨6, rfl, (show 6 < 8 by omega), ?_⟩
    refine br_ne (a := M.1 (b + 31) 6) (b := 1) (by omega) (by omega) (fun q2 => ?_) (fun q2 => ?_)
    · refine aw_197_63 ?_
      refine aw_197_64 ?_
      refine br_eq_y (by decide) (by decide) (by decide) ?_
      refine aw_197_81 ?_
      refine aw_197_82 ?_
      refine en_AW_drop [true, true, true, true, false] ?_
      exact ih (i + 1) c (by omega) hc (ko_t hk (by rw [vote_M, ← e7]; omega))
    · refine ⟨i, rfl, (show i < 24 by omega), ?_⟩
      refine br_ne (a := M.1 (b + 17) i) (b := 4) (by omega) (by omega) (fun q4 => ?_) (fun q4 => ?_)
      · refine aw_197_63 ?_
        refine aw_197_64 ?_
        refine br_eq_y (by decide) (by decide) (by decide) ?_
        refine aw_197_81 ?_
        refine aw_197_82 ?_
        refine en_AW_drop [true, true, true, true, false] ?_
        exact ih (i + 1) c (by omega) hc (ko_t hk (by rw [vote_M, ← e7]; omega))
      · refine ⟨i, rfl, (show i < 24 by omega), ?_⟩
        refine ⟨1, 0, by first | decide | omega, by first | decide | omega, en_Ct_eq (R_bits' (M.1 (b + 22) i) (by omega) (by omega) _) ?_⟩
        have pb6 := s_pc_b (n := ((M.1 (b + 22) i).toNat))
        refine br_ge (a := 2 * ((s_pc ((M.1 (b + 22) i).toNat) : Nat) : Int)) (b := M.1 b 18) (by omega) (by omega) (fun q7 => ?_) (fun q7 => ?_)
        · refine aw_197_63 ?_
          refine aw_197_64 ?_
          refine br_eq_y (by decide) (by decide) (by decide) ?_
          refine aw_197_81 ?_
          refine aw_197_82 ?_
          refine en_AW_drop [true, true, true, true, false] ?_
          exact ih (i + 1) c (by omega) hc (ko_t hk (by rw [vote_M, ← e7]; omega))
        · refine aw_197_64 ?_
          refine br_eq_n (by decide) (by decide) (by decide) ?_
          refine aw_197_82 ?_
          refine en_AW_drop [true, true, true, true, false] ?_
          obtain ⟨d, hd1, hd2, hd3⟩ := nu_clr (c := c) (i := i) (by omega) (by omega)
          refine en_AW_ls (congrArg (fun z_ : Int => ([some (.inr (.inr (1, 6, b))), some (.inl ((p : Nat) : Int)), some (.inl z_), some (.inl (((i : Nat) : Int) + 1)), none] : AL)) (show en_and ((c : Nat) : Int) (en_xor (en_shl 1 ((i : Nat) : Int)) (-1)) = ((d : Nat) : Int) from hd2)) ?_
          exact ih (i + 1) d (by omega) (by omega) (ko_f hk hd3 (by rw [vote_M, ← e7]; omega))
theorem R_keptOf (b : Nat) (E : Ev) (M : Mm) (hJ : isM M b E) (hg : s_ok E) (p : Nat) (hp : p < 4) : en_Ct 4 0 197 [.inr (.inr (1, 6, b)), .inl ((p : Nat) : Int)] M (fun r M' => r = some (.inl (((kpw E p : Nat) : Int))) ∧ M' = M) := by
  obtain ⟨n0, n1, n2, a0, a1, a2, a3, a4, a5, a6, a7⟩ := nm_J hJ hg
  have r0 : M.1 b 9 = E.1 0 0 := hJ.1.1
  have r1 : M.1 b 10 = E.1 0 1 := hJ.1.2.1
  have r2 : M.1 b 18 = E.1 0 2 := hJ.1.2.2.1
  have r3 : M.1 (b + 31) = E.1 1 := hJ.2.1.1
  refine ct_197 rfl ?_
  refine aw_197_0 ?_
  refine ⟨3, 0, by first | decide | omega, by first | decide | omega, en_Ct_eq (R_callNow b E M hJ hg) ?_⟩
  have kb1 := call_b hg
  refine ⟨2, 0, by first | decide | omega, by first | decide | omega, en_Ct_eq (V_wrt (b := b) (E := E) (M := M) hJ hg (p := p) (by omega) (sec := (s_call E)) (by omega)) ?_⟩
  exact L_keptOf b E M hJ hg p hp ⟨rfl, rfl⟩ (E.1 0 1).toNat 0 _ (by omega) (wrt_lt24 hg hp) (fun j => by simp)
