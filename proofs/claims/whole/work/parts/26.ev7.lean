/-- a word more -/
def addW (M : Mm) (e : Nat) (k l c s a : Int) : Mm := en_wI (en_wI (en_wI (en_wI (en_wI (en_wI (en_wI (en_wI M (e + 2) (M.1 e 1).toNat k) (e + 3) (M.1 e 1).toNat l) (e + 4) (M.1 e 1).toNat c) (e + 5) (M.1 e 1).toNat s) (e + 6) (M.1 e 1).toNat a) (e + 7) (M.1 e 1).toNat 0) (e + 8) (M.1 e 1).toNat 0) e 1 (M.1 e 1 + 1)
def addP (M : Mm) (e : Nat) : Mm := en_wI (en_wI (en_wI M (e + 14) (M.1 e 2).toNat 0) (e + 15) (M.1 e 2).toNat 0) e 2 (M.1 e 2 + 1)
theorem R_addWord (e : Nat) (k l c s a : Int) (M : Mm) (hn : s_num (vE M e)) (h24 : M.1 e 1 < 24) : en_Ct 1 0 16 [.inr (.inr (1, 1, e)), .inl k, .inl l, .inl c, .inl s, .inl a] M (fun r M' => r = some (.inl (M.1 e 1)) ∧ M' = addW M e k l c s a) := by
  obtain ⟨n0, n1, n2, a0, a1, a2, a3, a4, a5, a6, a7⟩ := nm_E hn
  refine ct_16 rfl ?_
  refine aw_16_0 ?_
  refine ⟨(M.1 e 1).toNat, it_nn (x := M.1 e 1) (by omega), (show (M.1 e 1).toNat < 24 by omega), ?_⟩
  refine ⟨(M.1 e 1).toNat, it_nn (x := M.1 e 1) (by omega), (show (M.1 e 1).toNat < 24 by omega), ?_⟩
  refine ⟨(M.1 e 1).toNat, it_nn (x := M.1 e 1) (by omega), (show (M.1 e 1).toNat < 24 by omega), ?_⟩
  refine ⟨(M.1 e 1).toNat, it_nn (x := M.1 e 1) (by omega), (show (M.1 e 1).toNat < 24 by omega), ?_⟩
  refine ⟨(M.1 e 1).toNat, it_nn (x := M.1 e 1) (by omega), (show (M.1 e 1).toNat < 24 by omega), ?_⟩
  refine ⟨(M.1 e 1).toNat, it_nn (x := M.1 e 1) (by omega), (show (M.1 e 1).toNat < 24 by omega), ?_⟩
  refine ⟨Or.inl rfl, ?_⟩
  refine ⟨(M.1 e 1).toNat, it_nn (x := M.1 e 1) (by omega), (show (M.1 e 1).toNat < 24 by omega), ?_⟩
  refine ⟨rfl, ?_⟩
  unfold addW
  refine congrArg (en_wI _ e 1) ?_
  simp [en_wI]
theorem R_addPerson (e : Nat) (M : Mm) (hn : s_num (vE M e)) (h4 : M.1 e 2 < 4) : en_Ct 1 0 17 [.inr (.inr (1, 1, e))] M (fun r M' => r = some (.inl (M.1 e 2)) ∧ M' = addP M e) := by
  obtain ⟨n0, n1, n2, a0, a1, a2, a3, a4, a5, a6, a7⟩ := nm_E hn
  refine ct_17 rfl ?_
  refine aw_17_0 ?_
  refine ⟨(M.1 e 2).toNat, it_nn (x := M.1 e 2) (by omega), (show (M.1 e 2).toNat < 4 by omega), ?_⟩
  refine ⟨(M.1 e 2).toNat, it_nn (x := M.1 e 2) (by omega), (show (M.1 e 2).toNat < 4 by omega), ?_⟩
  refine ⟨rfl, ?_⟩
  unfold addP
  refine congrArg (en_wI _ e 2) ?_
  simp [en_wI]
theorem nu_ushr (x : Int) : ∃ n : Nat, n < 65536 ∧ en_ushr x 16 = (n : Int) := by
  unfold en_ushr
  have h := pk_ushr (Int32.ofInt x) (Int32.ofInt 16) 16 (by decide)
  have hb : (Int32.ofInt x).toBitVec.toNat < 2 ^ 32 := (Int32.ofInt x).toBitVec.isLt
  refine ⟨(Int32.ofInt x).toBitVec.toNat / 2 ^ 16, by omega, ?_⟩
  rw [nu_ti (by rw [h]; omega), h]
def draw (s : Int) : Int := en_rem (en_ushr (s * 1103515245 + 12345) 16) 26
theorem draw_b (s : Int) : 0 ≤ draw s ∧ draw s ≤ 25 := by
  unfold draw
  obtain ⟨n, hn, e⟩ := nu_ushr (s * 1103515245 + 12345)
  rw [e]
  have := nu_rem (a := n) (b := 26) (by omega) (by decide) (by decide)
  rw [show ((26 : Nat) : Int) = 26 from rfl] at this
  rw [this]
  omega
theorem R_draw (e : Nat) (M : Mm) : en_Ct 1 0 33 [.inr (.inr (1, 1, e))] M (fun r M' => r = some (.inl (draw (M.1 e 3))) ∧ M' = en_wI M e 3 (M.1 e 3 * 1103515245 + 12345)) := by
  refine ct_33 rfl ?_
  refine aw_33_0 ?_
  refine ⟨by decide, ?_⟩
  refine ⟨?_, rfl⟩
  unfold draw
  simp [en_wI]
/-- the place of the column's word, of n places from i on -/
def s_op (col : Nat → Int) (f : Nat → Int) (c : Int) : Nat → Nat → Option Nat
  | 0, _ => none
  | n + 1, i => if col (f i).toNat = c then some i else s_op col f c n (i + 1)
theorem L_op {post : Option AV → Mm → Prop} (e p : Nat) (M : Mm) (hp : p < 4) (hn : s_num (vE M e)) (hW : s_wok (vE M e)) (hs : s_sh (vE M e) p) (c : Int) (hc : -2147483648 ≤ c ∧ c < 2147483648) : ∀ (n : Nat) (i : Nat), (((i : Nat) : Int) + ((n : Nat) : Int) = M.1 (e + 14) p) → (∀ j, s_op (M.1 (e + 4)) (M.1 (e + 9 + 1 + 1 * p)) c n i = some j → post (some (.inl ((j : Nat) : Int))) M) → (s_op (M.1 (e + 4)) (M.1 (e + 9 + 1 + 1 * p)) c n i = none → M.1 (e + 14) p < 5 ∧ post (some (.inl (M.1 (e + 14) p))) (en_wI (en_wI M (e + 9 + 1 + 1 * p) (M.1 (e + 14) p).toNat 0) (e + 14) p (M.1 (e + 14) p + 1))) → en_AW 1 0 24 post 10 [some (.inr (.inr (1, 1, e))), some (.inl ((p : Nat) : Int)), some (.inl c), some (.inl (M.1 (e + 14) p)), some (.inl ((i : Nat) : Int))] [] M 0 := by
  intro n
  induction n with
  | zero =>
    intro i hi h1 h0
    obtain ⟨n0, n1, n2, a0, a1, a2, a3, a4, a5, a6, a7⟩ := nm_E hn
    obtain ⟨s1, s2⟩ := sh_E hs
    obtain ⟨h6, h7⟩ := h0 rfl
    refine aw_24_10 ?_
    refine br_ge_y (a := ((i : Nat) : Int)) (b := M.1 (e + 14) p) (by omega) (by omega) (by omega) ?_
    refine aw_24_43 ?_
    refine br_lt_y (a := M.1 (e + 14) p) (b := 5) (by omega) (by omega) (by omega) ?_
    refine aw_24_52 ?_
    refine ⟨p, rfl, (show p < 4 by omega), ?_⟩
    refine ⟨(M.1 (e + 14) p).toNat, it_nn (x := M.1 (e + 14) p) (by omega), (show (M.1 (e + 14) p).toNat < 5 by omega), ?_⟩
    refine ⟨p, rfl, (show p < 4 by omega), ?_⟩
    exact h7
  | succ n ih =>
    intro i hi h1 h0
    obtain ⟨n0, n1, n2, a0, a1, a2, a3, a4, a5, a6, a7⟩ := nm_E hn
    obtain ⟨s1, s2⟩ := sh_E hs
    obtain ⟨x0, x1⟩ := s2 i (by omega)
    have hwd := wo_E (hW (M.1 (e + 9 + 1 + 1 * p) i).toNat (show (((M.1 (e + 9 + 1 + 1 * p) i).toNat : Nat) : Int) < M.1 e 1 by omega))
    refine aw_24_10 ?_
    refine br_ge_n (a := ((i : Nat) : Int)) (b := M.1 (e + 14) p) (by omega) (by omega) (by omega) ?_
    refine ⟨p, rfl, (show p < 4 by omega), ?_⟩
    refine ⟨i, rfl, (show i < 5 by omega), ?_⟩
    refine ⟨(M.1 (e + 9 + 1 + 1 * p) i).toNat, it_nn (x := M.1 (e + 9 + 1 + 1 * p) i) (by omega), (show (M.1 (e + 9 + 1 + 1 * p) i).toNat < 24 by omega), ?_⟩
    refine br_ne (a := M.1 (e + 4) ((M.1 (e + 9 + 1 + 1 * p) i).toNat)) (b := c) (by omega) (by omega) (fun q2 => ?_) (fun q2 => ?_)
    · refine aw_24_37 ?_
      exact ih (i + 1) (by omega) (fun j hj => h1 j (by unfold s_op; rw [if_neg ‹_›]; exact hj)) (fun hj => h0 (by unfold s_op; rw [if_neg ‹_›]; exact hj))
    · exact h1 i (by unfold s_op; rw [if_pos ‹_›])
theorem R_op (e p : Nat) (M : Mm) (hp : p < 4) (hn : s_num (vE M e)) (hW : s_wok (vE M e)) (hs : s_sh (vE M e) p) (c : Int) (hc : -2147483648 ≤ c ∧ c < 2147483648) (h5 : s_op (M.1 (e + 4)) (M.1 (e + 9 + 1 + 1 * p)) c (M.1 (e + 14) p).toNat 0 = none → M.1 (e + 14) p < 5) : en_Ct 1 0 24 [.inr (.inr (1, 1, e)), .inl ((p : Nat) : Int), .inl c] M (fun r M' => (∃ j, s_op (M.1 (e + 4)) (M.1 (e + 9 + 1 + 1 * p)) c (M.1 (e + 14) p).toNat 0 = some j ∧ r = some (.inl ((j : Nat) : Int)) ∧ M' = M) ∨ (s_op (M.1 (e + 4)) (M.1 (e + 9 + 1 + 1 * p)) c (M.1 (e + 14) p).toNat 0 = none ∧ r = some (.inl (M.1 (e + 14) p)) ∧ M' = en_wI (en_wI M (e + 9 + 1 + 1 * p) (M.1 (e + 14) p).toNat 0) (e + 14) p (M.1 (e + 14) p + 1))) := by
  obtain ⟨n0, n1, n2, a0, a1, a2, a3, a4, a5, a6, a7⟩ := nm_E hn
  obtain ⟨s1, s2⟩ := sh_E hs
  refine ct_24 rfl ?_
  refine aw_24_0 ?_
  refine ⟨p, rfl, (show p < 4 by omega), ?_⟩
  exact L_op e p M hp hn hW hs c hc (M.1 (e + 14) p).toNat 0 (by omega) (fun j hj => Or.inl ⟨j, hj, rfl, rfl⟩) (fun hj => ⟨h5 hj, Or.inr ⟨hj, rfl, rfl⟩⟩)
theorem L_be_33_1 {post : Option AV → Mm → Prop} (M : Mm) (hu : ∀ i : Nat, i < 24 → M.1 9 i = 0 ∨ M.1 9 i = 1) (hx : en_AW 1 0 10 post 191 [some (.inr (.inr (1, 1, 33))), some (.inr (.inr (1, 1, 1))), none] [] (pr M 41 (M.1 9) 24) 0) : ∀ (n : Nat) (i : Nat), (i + n = 24) → en_AW 1 0 10 post 167 [some (.inr (.inr (1, 1, 33))), some (.inr (.inr (1, 1, 1))), some (.inl ((i : Nat) : Int))] [] (pr M 41 (M.1 9) i) 0 := by
  intro n
  induction n with
  | zero =>
    intro i hi
    refine aw_10_167 ?_
    refine br_ge_y (a := ((i : Nat) : Int)) (b := 24) (by omega) (by omega) (by omega) ?_
    refine en_AW_drop [true, true, false] ?_
    rw [show i = 24 by omega]
    exact hx
  | succ n ih =>
    intro i hi
    refine aw_10_167 ?_
    refine br_ge_n (a := ((i : Nat) : Int)) (b := 24) (by omega) (by omega) (by omega) ?_
    refine ⟨i, rfl, (show i < 24 by omega), ?_⟩
    refine ⟨(by have := hu i (by omega); simpa [pr] using this), ?_⟩
    refine ⟨i, rfl, (show i < 24 by omega), ?_⟩
    refine en_AW_M (show en_wI (pr M 41 (M.1 9) i) 41 i ((pr M 41 (M.1 9) i).1 9 i) = pr M 41 (M.1 9) (i + 1) from pr_step (by simp [pr])) ?_
    exact ih (i + 1) (by omega)
theorem R_be_33_1 (M : Mm) (hu : ∀ i : Nat, i < 24 → M.1 9 i = 0 ∨ M.1 9 i = 1) : en_Ct 1 0 10 [.inr (.inr (1, 1, 33)), .inr (.inr (1, 1, 1))] M (fun r M' => r = none ∧ cpd M M' 33 1) := by
  refine ct_10 rfl ?_
  refine aw_10_0 ?_
  refine ⟨8, 0, 0, rfl, rfl, rfl, (show 0 + 8 ≤ 8 by omega), (show 0 + 8 ≤ 8 by omega), ?_⟩
  refine ⟨24, 0, 0, rfl, rfl, rfl, (show 0 + 24 ≤ 24 by omega), (show 0 + 24 ≤ 24 by omega), ?_⟩
  refine ⟨24, 0, 0, rfl, rfl, rfl, (show 0 + 24 ≤ 24 by omega), (show 0 + 24 ≤ 24 by omega), ?_⟩
  refine ⟨24, 0, 0, rfl, rfl, rfl, (show 0 + 24 ≤ 24 by omega), (show 0 + 24 ≤ 24 by omega), ?_⟩
  refine ⟨24, 0, 0, rfl, rfl, rfl, (show 0 + 24 ≤ 24 by omega), (show 0 + 24 ≤ 24 by omega), ?_⟩
  refine ⟨24, 0, 0, rfl, rfl, rfl, (show 0 + 24 ≤ 24 by omega), (show 0 + 24 ≤ 24 by omega), ?_⟩
  refine ⟨24, 0, 0, rfl, rfl, rfl, (show 0 + 24 ≤ 24 by omega), (show 0 + 24 ≤ 24 by omega), ?_⟩
  refine ⟨4, 0, 0, rfl, rfl, rfl, (show 0 + 4 ≤ 4 by omega), (show 0 + 4 ≤ 4 by omega), ?_⟩
  refine ⟨4, 0, 0, rfl, rfl, rfl, (show 0 + 4 ≤ 4 by omega), (show 0 + 4 ≤ 4 by omega), ?_⟩
  refine en_AW_drop [true, true, true] ?_
  generalize hM1 : en_cI (en_cI (en_cI (en_cI (en_cI (en_cI (en_cI (en_cI (en_cI (en_wI (en_wI (en_wI (en_wI M 33 0 (M.1 1 0)) 33 1 ((en_wI M 33 0 (M.1 1 0)).1 1 1)) 33 2 ((en_wI (en_wI M 33 0 (M.1 1 0)) 33 1 ((en_wI M 33 0 (M.1 1 0)).1 1 1)).1 1 2)) 33 3 ((en_wI (en_wI (en_wI M 33 0 (M.1 1 0)) 33 1 ((en_wI M 33 0 (M.1 1 0)).1 1 1)) 33 2 ((en_wI (en_wI M 33 0 (M.1 1 0)) 33 1 ((en_wI M 33 0 (M.1 1 0)).1 1 1)).1 1 2)).1 1 3)) 2 34 0 0 8) 3 35 0 0 24) 4 36 0 0 24) 5 37 0 0 24) 6 38 0 0 24) 7 39 0 0 24) 8 40 0 0 24) 15 47 0 0 4) 16 48 0 0 4 = M1
  refine en_AW_M (show M1 = pr M1 41 (M1.1 9) 0 from pr_0.symm) ?_
  refine L_be_33_1 M1 (by subst hM1; intro i hi; have := hu i hi; simpa [en_cI, en_wI] using this) ?_ 24 0 (by omega)
  refine aw_10_191 ?_
  refine aw_10_193 ?_
  refine br_ge_n (by decide) (by decide) (by decide) ?_
  refine ⟨0, rfl, (show 0 < 4 by omega), ?_⟩
  refine ⟨0, rfl, (show 0 < 4 by omega), ?_⟩
  refine ⟨5, 0, 0, rfl, rfl, rfl, (show 0 + 5 ≤ 5 by omega), (show 0 + 5 ≤ 5 by omega), ?_⟩
  refine aw_10_193 ?_
  refine br_ge_n (by decide) (by decide) (by decide) ?_
  refine ⟨1, rfl, (show 1 < 4 by omega), ?_⟩
  refine ⟨1, rfl, (show 1 < 4 by omega), ?_⟩
  refine ⟨5, 0, 0, rfl, rfl, rfl, (show 0 + 5 ≤ 5 by omega), (show 0 + 5 ≤ 5 by omega), ?_⟩
  refine aw_10_193 ?_
  refine br_ge_n (by decide) (by decide) (by decide) ?_
  refine ⟨2, rfl, (show 2 < 4 by omega), ?_⟩
  refine ⟨2, rfl, (show 2 < 4 by omega), ?_⟩
  refine ⟨5, 0, 0, rfl, rfl, rfl, (show 0 + 5 ≤ 5 by omega), (show 0 + 5 ≤ 5 by omega), ?_⟩
  refine aw_10_193 ?_
  refine br_ge_n (by decide) (by decide) (by decide) ?_
  refine ⟨3, rfl, (show 3 < 4 by omega), ?_⟩
  refine ⟨3, rfl, (show 3 < 4 by omega), ?_⟩
  refine ⟨5, 0, 0, rfl, rfl, rfl, (show 0 + 5 ≤ 5 by omega), (show 0 + 5 ≤ 5 by omega), ?_⟩
  refine aw_10_193 ?_
  refine br_ge_y (by decide) (by decide) (by decide) ?_
  refine aw_10_222 ?_
  refine ⟨rfl, (show cpd M (en_cI (en_cI (en_cI (en_cI (pr M1 41 (M1.1 9) 24) (11 + 1 * 0) (43 + 1 * 0) 0 0 5) (11 + 1 * 1) (43 + 1 * 1) 0 0 5) (11 + 1 * 2) (43 + 1 * 2) 0 0 5) (11 + 1 * 3) (43 + 1 * 3) 0 0 5) 33 1 from ?_)⟩
  subst hM1
  refine ⟨rfl, fun a ha => ?_, fun i hi => ?_, fun i hi => ?_, fun r i h2 h8 hi => ?_, fun i hi => ⟨?_, ?_⟩, fun p i hp hi => ?_⟩
  · simp only [en_cI, en_wI, pr]
    repeat rw [if_neg (by omega)]
  · show _ = M.1 1 i
    rcases (show i = 0 ∨ i = 1 ∨ i = 2 ∨ i = 3 by omega) with rfl | rfl | rfl | rfl <;> simp [vE, en_cI, en_wI, pr, va_cpy]
  · show _ = M.1 (1 + 1) i
    simp [vE, en_cI, en_wI, pr, va_cpy, hi]
  · show _ = M.1 (1 + r) i
    rcases (show r = 2 ∨ r = 3 ∨ r = 4 ∨ r = 5 ∨ r = 6 ∨ r = 7 ∨ r = 8 by omega) with rfl | rfl | rfl | rfl | rfl | rfl | rfl <;> simp [vE, en_cI, en_wI, pr, va_cpy, hi]
  · show _ = M.1 (1 + 14) i
    simp [vE, en_cI, en_wI, pr, va_cpy, hi]
  · show _ = M.1 (1 + 15) i
    simp [vE, en_cI, en_wI, pr, va_cpy, hi]
  · show _ = M.1 (1 + 9 + 1 + 1 * p) i
    rcases (show p = 0 ∨ p = 1 ∨ p = 2 ∨ p = 3 by omega) with rfl | rfl | rfl | rfl <;> simp [vE, en_cI, en_wI, pr, va_cpy, hi]
theorem L_be_1_33 {post : Option AV → Mm → Prop} (M : Mm) (hu : ∀ i : Nat, i < 24 → M.1 41 i = 0 ∨ M.1 41 i = 1) (hx : en_AW 1 0 10 post 191 [some (.inr (.inr (1, 1, 1))), some (.inr (.inr (1, 1, 33))), none] [] (pr M 9 (M.1 41) 24) 0) : ∀ (n : Nat) (i : Nat), (i + n = 24) → en_AW 1 0 10 post 167 [some (.inr (.inr (1, 1, 1))), some (.inr (.inr (1, 1, 33))), some (.inl ((i : Nat) : Int))] [] (pr M 9 (M.1 41) i) 0 := by
  intro n
  induction n with
  | zero =>
    intro i hi
    refine aw_10_167 ?_
    refine br_ge_y (a := ((i : Nat) : Int)) (b := 24) (by omega) (by omega) (by omega) ?_
    refine en_AW_drop [true, true, false] ?_
    rw [show i = 24 by omega]
    exact hx
  | succ n ih =>
    intro i hi
    refine aw_10_167 ?_
    refine br_ge_n (a := ((i : Nat) : Int)) (b := 24) (by omega) (by omega) (by omega) ?_
    refine ⟨i, rfl, (show i < 24 by omega), ?_⟩
    refine ⟨(by have := hu i (by omega); simpa [pr] using this), ?_⟩
    refine ⟨i, rfl, (show i < 24 by omega), ?_⟩
    refine en_AW_M (show en_wI (pr M 9 (M.1 41) i) 9 i ((pr M 9 (M.1 41) i).1 41 i) = pr M 9 (M.1 41) (i + 1) from pr_step (by simp [pr])) ?_
    exact ih (i + 1) (by omega)
theorem R_be_1_33 (M : Mm) (hu : ∀ i : Nat, i < 24 → M.1 41 i = 0 ∨ M.1 41 i = 1) : en_Ct 1 0 10 [.inr (.inr (1, 1, 1)), .inr (.inr (1, 1, 33))] M (fun r M' => r = none ∧ cpd M M' 1 33) := by
  refine ct_10 rfl ?_
  refine aw_10_0 ?_
  refine ⟨8, 0, 0, rfl, rfl, rfl, (show 0 + 8 ≤ 8 by omega), (show 0 + 8 ≤ 8 by omega), ?_⟩
  refine ⟨24, 0, 0, rfl, rfl, rfl, (show 0 + 24 ≤ 24 by omega), (show 0 + 24 ≤ 24 by omega), ?_⟩
  refine ⟨24, 0, 0, rfl, rfl, rfl, (show 0 + 24 ≤ 24 by omega), (show 0 + 24 ≤ 24 by omega), ?_⟩
  refine ⟨24, 0, 0, rfl, rfl, rfl, (show 0 + 24 ≤ 24 by omega), (show 0 + 24 ≤ 24 by omega), ?_⟩
  refine ⟨24, 0, 0, rfl, rfl, rfl, (show 0 + 24 ≤ 24 by omega), (show 0 + 24 ≤ 24 by omega), ?_⟩
  refine ⟨24, 0, 0, rfl, rfl, rfl, (show 0 + 24 ≤ 24 by omega), (show 0 + 24 ≤ 24 by omega), ?_⟩
  refine ⟨24, 0, 0, rfl, rfl, rfl, (show 0 + 24 ≤ 24 by omega), (show 0 + 24 ≤ 24 by omega), ?_⟩
  refine ⟨4, 0, 0, rfl, rfl, rfl, (show 0 + 4 ≤ 4 by omega), (show 0 + 4 ≤ 4 by omega), ?_⟩
  refine ⟨4, 0, 0, rfl, rfl, rfl, (show 0 + 4 ≤ 4 by omega), (show 0 + 4 ≤ 4 by omega), ?_⟩
  refine en_AW_drop [true, true, true] ?_
  generalize hM1 : en_cI (en_cI (en_cI (en_cI (en_cI (en_cI (en_cI (en_cI (en_cI (en_wI (en_wI (en_wI (en_wI M 1 0 (M.1 33 0)) 1 1 ((en_wI M 1 0 (M.1 33 0)).1 33 1)) 1 2 ((en_wI (en_wI M 1 0 (M.1 33 0)) 1 1 ((en_wI M 1 0 (M.1 33 0)).1 33 1)).1 33 2)) 1 3 ((en_wI (en_wI (en_wI M 1 0 (M.1 33 0)) 1 1 ((en_wI M 1 0 (M.1 33 0)).1 33 1)) 1 2 ((en_wI (en_wI M 1 0 (M.1 33 0)) 1 1 ((en_wI M 1 0 (M.1 33 0)).1 33 1)).1 33 2)).1 33 3)) 34 2 0 0 8) 35 3 0 0 24) 36 4 0 0 24) 37 5 0 0 24) 38 6 0 0 24) 39 7 0 0 24) 40 8 0 0 24) 47 15 0 0 4) 48 16 0 0 4 = M1
  refine en_AW_M (show M1 = pr M1 9 (M1.1 41) 0 from pr_0.symm) ?_
  refine L_be_1_33 M1 (by subst hM1; intro i hi; have := hu i hi; simpa [en_cI, en_wI] using this) ?_ 24 0 (by omega)
  refine aw_10_191 ?_
  refine aw_10_193 ?_
  refine br_ge_n (by decide) (by decide) (by decide) ?_
  refine ⟨0, rfl, (show 0 < 4 by omega), ?_⟩
  refine ⟨0, rfl, (show 0 < 4 by omega), ?_⟩
  refine ⟨5, 0, 0, rfl, rfl, rfl, (show 0 + 5 ≤ 5 by omega), (show 0 + 5 ≤ 5 by omega), ?_⟩
  refine aw_10_193 ?_
  refine br_ge_n (by decide) (by decide) (by decide) ?_
  refine ⟨1, rfl, (show 1 < 4 by omega), ?_⟩
  refine ⟨1, rfl, (show 1 < 4 by omega), ?_⟩
  refine ⟨5, 0, 0, rfl, rfl, rfl, (show 0 + 5 ≤ 5 by omega), (show 0 + 5 ≤ 5 by omega), ?_⟩
  refine aw_10_193 ?_
  refine br_ge_n (by decide) (by decide) (by decide) ?_
  refine ⟨2, rfl, (show 2 < 4 by omega), ?_⟩
  refine ⟨2, rfl, (show 2 < 4 by omega), ?_⟩
  refine ⟨5, 0, 0, rfl, rfl, rfl, (show 0 + 5 ≤ 5 by omega), (show 0 + 5 ≤ 5 by omega), ?_⟩
  refine aw_10_193 ?_
  refine br_ge_n (by decide) (by decide) (by decide) ?_
  refine ⟨3, rfl, (show 3 < 4 by omega), ?_⟩
  refine ⟨3, rfl, (show 3 < 4 by omega), ?_⟩
  refine ⟨5, 0, 0, rfl, rfl, rfl, (show 0 + 5 ≤ 5 by omega), (show 0 + 5 ≤ 5 by omega), ?_⟩
  refine aw_10_193 ?_
  refine br_ge_y (by decide) (by decide) (by decide) ?_
  refine aw_10_222 ?_
  refine ⟨rfl, (show cpd M (en_cI (en_cI (en_cI (en_cI (pr M1 9 (M1.1 41) 24) (43 + 1 * 0) (11 + 1 * 0) 0 0 5) (43 + 1 * 1) (11 + 1 * 1) 0 0 5) (43 + 1 * 2) (11 + 1 * 2) 0 0 5) (43 + 1 * 3) (11 + 1 * 3) 0 0 5) 1 33 from ?_)⟩
  subst hM1
  refine ⟨rfl, fun a ha => ?_, fun i hi => ?_, fun i hi => ?_, fun r i h2 h8 hi => ?_, fun i hi => ⟨?_, ?_⟩, fun p i hp hi => ?_⟩
  · simp only [en_cI, en_wI, pr]
    repeat rw [if_neg (by omega)]
  · show _ = M.1 33 i
    rcases (show i = 0 ∨ i = 1 ∨ i = 2 ∨ i = 3 by omega) with rfl | rfl | rfl | rfl <;> simp [vE, en_cI, en_wI, pr, va_cpy]
  · show _ = M.1 (33 + 1) i
    simp [vE, en_cI, en_wI, pr, va_cpy, hi]
  · show _ = M.1 (33 + r) i
    rcases (show r = 2 ∨ r = 3 ∨ r = 4 ∨ r = 5 ∨ r = 6 ∨ r = 7 ∨ r = 8 by omega) with rfl | rfl | rfl | rfl | rfl | rfl | rfl <;> simp [vE, en_cI, en_wI, pr, va_cpy, hi]
  · show _ = M.1 (33 + 14) i
    simp [vE, en_cI, en_wI, pr, va_cpy, hi]
  · show _ = M.1 (33 + 15) i
    simp [vE, en_cI, en_wI, pr, va_cpy, hi]
  · show _ = M.1 (33 + 9 + 1 + 1 * p) i
    rcases (show p = 0 ∨ p = 1 ∨ p = 2 ∨ p = 3 by omega) with rfl | rfl | rfl | rfl <;> simp [vE, en_cI, en_wI, pr, va_cpy, hi]
theorem L_be_17_1 {post : Option AV → Mm → Prop} (M : Mm) (hu : ∀ i : Nat, i < 24 → M.1 9 i = 0 ∨ M.1 9 i = 1) (hx : en_AW 1 0 10 post 191 [some (.inr (.inr (1, 1, 17))), some (.inr (.inr (1, 1, 1))), none] [] (pr M 25 (M.1 9) 24) 0) : ∀ (n : Nat) (i : Nat), (i + n = 24) → en_AW 1 0 10 post 167 [some (.inr (.inr (1, 1, 17))), some (.inr (.inr (1, 1, 1))), some (.inl ((i : Nat) : Int))] [] (pr M 25 (M.1 9) i) 0 := by
  intro n
  induction n with
  | zero =>
    intro i hi
    refine aw_10_167 ?_
    refine br_ge_y (a := ((i : Nat) : Int)) (b := 24) (by omega) (by omega) (by omega) ?_
    refine en_AW_drop [true, true, false] ?_
    rw [show i = 24 by omega]
    exact hx
  | succ n ih =>
    intro i hi
    refine aw_10_167 ?_
    refine br_ge_n (a := ((i : Nat) : Int)) (b := 24) (by omega) (by omega) (by omega) ?_
    refine ⟨i, rfl, (show i < 24 by omega), ?_⟩
    refine ⟨(by have := hu i (by omega); simpa [pr] using this), ?_⟩
    refine ⟨i, rfl, (show i < 24 by omega), ?_⟩
    refine en_AW_M (show en_wI (pr M 25 (M.1 9) i) 25 i ((pr M 25 (M.1 9) i).1 9 i) = pr M 25 (M.1 9) (i + 1) from pr_step (by simp [pr])) ?_
    exact ih (i + 1) (by omega)
theorem R_be_17_1 (M : Mm) (hu : ∀ i : Nat, i < 24 → M.1 9 i = 0 ∨ M.1 9 i = 1) : en_Ct 1 0 10 [.inr (.inr (1, 1, 17)), .inr (.inr (1, 1, 1))] M (fun r M' => r = none ∧ cpd M M' 17 1) := by
  refine ct_10 rfl ?_
  refine aw_10_0 ?_
  refine ⟨8, 0, 0, rfl, rfl, rfl, (show 0 + 8 ≤ 8 by omega), (show 0 + 8 ≤ 8 by omega), ?_⟩
  refine ⟨24, 0, 0, rfl, rfl, rfl, (show 0 + 24 ≤ 24 by omega), (show 0 + 24 ≤ 24 by omega), ?_⟩
  refine ⟨24, 0, 0, rfl, rfl, rfl, (show 0 + 24 ≤ 24 by omega), (show 0 + 24 ≤ 24 by omega), ?_⟩
  refine ⟨24, 0, 0, rfl, rfl, rfl, (show 0 + 24 ≤ 24 by omega), (show 0 + 24 ≤ 24 by omega), ?_⟩
  refine ⟨24, 0, 0, rfl, rfl, rfl, (show 0 + 24 ≤ 24 by omega), (show 0 + 24 ≤ 24 by omega), ?_⟩
  refine ⟨24, 0, 0, rfl, rfl, rfl, (show 0 + 24 ≤ 24 by omega), (show 0 + 24 ≤ 24 by omega), ?_⟩
  refine ⟨24, 0, 0, rfl, rfl, rfl, (show 0 + 24 ≤ 24 by omega), (show 0 + 24 ≤ 24 by omega), ?_⟩
  refine ⟨4, 0, 0, rfl, rfl, rfl, (show 0 + 4 ≤ 4 by omega), (show 0 + 4 ≤ 4 by omega), ?_⟩
  refine ⟨4, 0, 0, rfl, rfl, rfl, (show 0 + 4 ≤ 4 by omega), (show 0 + 4 ≤ 4 by omega), ?_⟩
  refine en_AW_drop [true, true, true] ?_
  generalize hM1 : en_cI (en_cI (en_cI (en_cI (en_cI (en_cI (en_cI (en_cI (en_cI (en_wI (en_wI (en_wI (en_wI M 17 0 (M.1 1 0)) 17 1 ((en_wI M 17 0 (M.1 1 0)).1 1 1)) 17 2 ((en_wI (en_wI M 17 0 (M.1 1 0)) 17 1 ((en_wI M 17 0 (M.1 1 0)).1 1 1)).1 1 2)) 17 3 ((en_wI (en_wI (en_wI M 17 0 (M.1 1 0)) 17 1 ((en_wI M 17 0 (M.1 1 0)).1 1 1)) 17 2 ((en_wI (en_wI M 17 0 (M.1 1 0)) 17 1 ((en_wI M 17 0 (M.1 1 0)).1 1 1)).1 1 2)).1 1 3)) 2 18 0 0 8) 3 19 0 0 24) 4 20 0 0 24) 5 21 0 0 24) 6 22 0 0 24) 7 23 0 0 24) 8 24 0 0 24) 15 31 0 0 4) 16 32 0 0 4 = M1
  refine en_AW_M (show M1 = pr M1 25 (M1.1 9) 0 from pr_0.symm) ?_
  refine L_be_17_1 M1 (by subst hM1; intro i hi; have := hu i hi; simpa [en_cI, en_wI] using this) ?_ 24 0 (by omega)
  refine aw_10_191 ?_
  refine aw_10_193 ?_
  refine br_ge_n (by decide) (by decide) (by decide) ?_
  refine ⟨0, rfl, (show 0 < 4 by omega), ?_⟩
  refine ⟨0, rfl, (show 0 < 4 by omega), ?_⟩
  refine ⟨5, 0, 0, rfl, rfl, rfl, (show 0 + 5 ≤ 5 by omega), (show 0 + 5 ≤ 5 by omega), ?_⟩
  refine aw_10_193 ?_
  refine br_ge_n (by decide) (by decide) (by decide) ?_
  refine ⟨1, rfl, (show 1 < 4 by omega), ?_⟩
  refine ⟨1, rfl, (show 1 < 4 by omega), ?_⟩
  refine ⟨5, 0, 0, rfl, rfl, rfl, (show 0 + 5 ≤ 5 by omega), (show 0 + 5 ≤ 5 by omega), ?_⟩
  refine aw_10_193 ?_
  refine br_ge_n (by decide) (by decide) (by decide) ?_
  refine ⟨2, rfl, (show 2 < 4 by omega), ?_⟩
  refine ⟨2, rfl, (show 2 < 4 by omega), ?_⟩
  refine ⟨5, 0, 0, rfl, rfl, rfl, (show 0 + 5 ≤ 5 by omega), (show 0 + 5 ≤ 5 by omega), ?_⟩
  refine aw_10_193 ?_
  refine br_ge_n (by decide) (by decide) (by decide) ?_
  refine ⟨3, rfl, (show 3 < 4 by omega), ?_⟩
  refine ⟨3, rfl, (show 3 < 4 by omega), ?_⟩
  refine ⟨5, 0, 0, rfl, rfl, rfl, (show 0 + 5 ≤ 5 by omega), (show 0 + 5 ≤ 5 by omega), ?_⟩
  refine aw_10_193 ?_
  refine br_ge_y (by decide) (by decide) (by decide) ?_
  refine aw_10_222 ?_
  refine ⟨rfl, (show cpd M (en_cI (en_cI (en_cI (en_cI (pr M1 25 (M1.1 9) 24) (11 + 1 * 0) (27 + 1 * 0) 0 0 5) (11 + 1 * 1) (27 + 1 * 1) 0 0 5) (11 + 1 * 2) (27 + 1 * 2) 0 0 5) (11 + 1 * 3) (27 + 1 * 3) 0 0 5) 17 1 from ?_)⟩
  subst hM1
  refine ⟨rfl, fun a ha => ?_, fun i hi => ?_, fun i hi => ?_, fun r i h2 h8 hi => ?_, fun i hi => ⟨?_, ?_⟩, fun p i hp hi => ?_⟩
  · simp only [en_cI, en_wI, pr]
    repeat rw [if_neg (by omega)]
  · show _ = M.1 1 i
    rcases (show i = 0 ∨ i = 1 ∨ i = 2 ∨ i = 3 by omega) with rfl | rfl | rfl | rfl <;> simp [vE, en_cI, en_wI, pr, va_cpy]
  · show _ = M.1 (1 + 1) i
    simp [vE, en_cI, en_wI, pr, va_cpy, hi]
  · show _ = M.1 (1 + r) i
    rcases (show r = 2 ∨ r = 3 ∨ r = 4 ∨ r = 5 ∨ r = 6 ∨ r = 7 ∨ r = 8 by omega) with rfl | rfl | rfl | rfl | rfl | rfl | rfl <;> simp [vE, en_cI, en_wI, pr, va_cpy, hi]
  · show _ = M.1 (1 + 14) i
    simp [vE, en_cI, en_wI, pr, va_cpy, hi]
  · show _ = M.1 (1 + 15) i
    simp [vE, en_cI, en_wI, pr, va_cpy, hi]
  · show _ = M.1 (1 + 9 + 1 + 1 * p) i
    rcases (show p = 0 ∨ p = 1 ∨ p = 2 ∨ p = 3 by omega) with rfl | rfl | rfl | rfl <;> simp [vE, en_cI, en_wI, pr, va_cpy, hi]
theorem L_be_1_17 {post : Option AV → Mm → Prop} (M : Mm) (hu : ∀ i : Nat, i < 24 → M.1 25 i = 0 ∨ M.1 25 i = 1) (hx : en_AW 1 0 10 post 191 [some (.inr (.inr (1, 1, 1))), some (.inr (.inr (1, 1, 17))), none] [] (pr M 9 (M.1 25) 24) 0) : ∀ (n : Nat) (i : Nat), (i + n = 24) → en_AW 1 0 10 post 167 [some (.inr (.inr (1, 1, 1))), some (.inr (.inr (1, 1, 17))), some (.inl ((i : Nat) : Int))] [] (pr M 9 (M.1 25) i) 0 := by
  intro n
  induction n with
  | zero =>
    intro i hi
    refine aw_10_167 ?_
    refine br_ge_y (a := ((i : Nat) : Int)) (b := 24) (by omega) (by omega) (by omega) ?_
    refine en_AW_drop [true, true, false] ?_
    rw [show i = 24 by omega]
    exact hx
  | succ n ih =>
    intro i hi
    refine aw_10_167 ?_
    refine br_ge_n (a := ((i : Nat) : Int)) (b := 24) (by omega) (by omega) (by omega) ?_
    refine ⟨i, rfl, (show i < 24 by omega), ?_⟩
    refine ⟨(by have := hu i (by omega); simpa [pr] using this), ?_⟩
    refine ⟨i, rfl, (show i < 24 by omega), ?_⟩
    refine en_AW_M (show en_wI (pr M 9 (M.1 25) i) 9 i ((pr M 9 (M.1 25) i).1 25 i) = pr M 9 (M.1 25) (i + 1) from pr_step (by simp [pr])) ?_
    exact ih (i + 1) (by omega)
theorem R_be_1_17 (M : Mm) (hu : ∀ i : Nat, i < 24 → M.1 25 i = 0 ∨ M.1 25 i = 1) : en_Ct 1 0 10 [.inr (.inr (1, 1, 1)), .inr (.inr (1, 1, 17))] M (fun r M' => r = none ∧ cpd M M' 1 17) := by
  refine ct_10 rfl ?_
  refine aw_10_0 ?_
  refine ⟨8, 0, 0, rfl, rfl, rfl, (show 0 + 8 ≤ 8 by omega), (show 0 + 8 ≤ 8 by omega), ?_⟩
  refine ⟨24, 0, 0, rfl, rfl, rfl, (show 0 + 24 ≤ 24 by omega), (show 0 + 24 ≤ 24 by omega), ?_⟩
  refine ⟨24, 0, 0, rfl, rfl, rfl, (show 0 + 24 ≤ 24 by omega), (show 0 + 24 ≤ 24 by omega), ?_⟩
  refine ⟨24, 0, 0, rfl, rfl, rfl, (show 0 + 24 ≤ 24 by omega), (show 0 + 24 ≤ 24 by omega), ?_⟩
  refine ⟨24, 0, 0, rfl, rfl, rfl, (show 0 + 24 ≤ 24 by omega), (show 0 + 24 ≤ 24 by omega), ?_⟩
  refine ⟨24, 0, 0, rfl, rfl, rfl, (show 0 + 24 ≤ 24 by omega), (show 0 + 24 ≤ 24 by omega), ?_⟩
  refine ⟨24, 0, 0, rfl, rfl, rfl, (show 0 + 24 ≤ 24 by omega), (show 0 + 24 ≤ 24 by omega), ?_⟩
  refine ⟨4, 0, 0, rfl, rfl, rfl, (show 0 + 4 ≤ 4 by omega), (show 0 + 4 ≤ 4 by omega), ?_⟩
  refine ⟨4, 0, 0, rfl, rfl, rfl, (show 0 + 4 ≤ 4 by omega), (show 0 + 4 ≤ 4 by omega), ?_⟩
  refine en_AW_drop [true, true, true] ?_
  generalize hM1 : en_cI (en_cI (en_cI (en_cI (en_cI (en_cI (en_cI (en_cI (en_cI (en_wI (en_wI (en_wI (en_wI M 1 0 (M.1 17 0)) 1 1 ((en_wI M 1 0 (M.1 17 0)).1 17 1)) 1 2 ((en_wI (en_wI M 1 0 (M.1 17 0)) 1 1 ((en_wI M 1 0 (M.1 17 0)).1 17 1)).1 17 2)) 1 3 ((en_wI (en_wI (en_wI M 1 0 (M.1 17 0)) 1 1 ((en_wI M 1 0 (M.1 17 0)).1 17 1)) 1 2 ((en_wI (en_wI M 1 0 (M.1 17 0)) 1 1 ((en_wI M 1 0 (M.1 17 0)).1 17 1)).1 17 2)).1 17 3)) 18 2 0 0 8) 19 3 0 0 24) 20 4 0 0 24) 21 5 0 0 24) 22 6 0 0 24) 23 7 0 0 24) 24 8 0 0 24) 31 15 0 0 4) 32 16 0 0 4 = M1
  refine en_AW_M (show M1 = pr M1 9 (M1.1 25) 0 from pr_0.symm) ?_
  refine L_be_1_17 M1 (by subst hM1; intro i hi; have := hu i hi; simpa [en_cI, en_wI] using this) ?_ 24 0 (by omega)
  refine aw_10_191 ?_
  refine aw_10_193 ?_
  refine br_ge_n (by decide) (by decide) (by decide) ?_
  refine ⟨0, rfl, (show 0 < 4 by omega), ?_⟩
  refine ⟨0, rfl, (show 0 < 4 by omega), ?_⟩
  refine ⟨5, 0, 0, rfl, rfl, rfl, (show 0 + 5 ≤ 5 by omega), (show 0 + 5 ≤ 5 by omega), ?_⟩
  refine aw_10_193 ?_
  refine br_ge_n (by decide) (by decide) (by decide) ?_
  refine ⟨1, rfl, (show 1 < 4 by omega), ?_⟩
  refine ⟨1, rfl, (show 1 < 4 by omega), ?_⟩
  refine ⟨5, 0, 0, rfl, rfl, rfl, (show 0 + 5 ≤ 5 by omega), (show 0 + 5 ≤ 5 by omega), ?_⟩
  refine aw_10_193 ?_
  refine br_ge_n (by decide) (by decide) (by decide) ?_
  refine ⟨2, rfl, (show 2 < 4 by omega), ?_⟩
  refine ⟨2, rfl, (show 2 < 4 by omega), ?_⟩
  refine ⟨5, 0, 0, rfl, rfl, rfl, (show 0 + 5 ≤ 5 by omega), (show 0 + 5 ≤ 5 by omega), ?_⟩
  refine aw_10_193 ?_
  refine br_ge_n (by decide) (by decide) (by decide) ?_
  refine ⟨3, rfl, (show 3 < 4 by omega), ?_⟩
  refine ⟨3, rfl, (show 3 < 4 by omega), ?_⟩
  refine ⟨5, 0, 0, rfl, rfl, rfl, (show 0 + 5 ≤ 5 by omega), (show 0 + 5 ≤ 5 by omega), ?_⟩
  refine aw_10_193 ?_
  refine br_ge_y (by decide) (by decide) (by decide) ?_
  refine aw_10_222 ?_
  refine ⟨rfl, (show cpd M (en_cI (en_cI (en_cI (en_cI (pr M1 9 (M1.1 25) 24) (27 + 1 * 0) (11 + 1 * 0) 0 0 5) (27 + 1 * 1) (11 + 1 * 1) 0 0 5) (27 + 1 * 2) (11 + 1 * 2) 0 0 5) (27 + 1 * 3) (11 + 1 * 3) 0 0 5) 1 17 from ?_)⟩
  subst hM1
  refine ⟨rfl, fun a ha => ?_, fun i hi => ?_, fun i hi => ?_, fun r i h2 h8 hi => ?_, fun i hi => ⟨?_, ?_⟩, fun p i hp hi => ?_⟩
  · simp only [en_cI, en_wI, pr]
    repeat rw [if_neg (by omega)]
  · show _ = M.1 17 i
    rcases (show i = 0 ∨ i = 1 ∨ i = 2 ∨ i = 3 by omega) with rfl | rfl | rfl | rfl <;> simp [vE, en_cI, en_wI, pr, va_cpy]
  · show _ = M.1 (17 + 1) i
    simp [vE, en_cI, en_wI, pr, va_cpy, hi]
  · show _ = M.1 (17 + r) i
    rcases (show r = 2 ∨ r = 3 ∨ r = 4 ∨ r = 5 ∨ r = 6 ∨ r = 7 ∨ r = 8 by omega) with rfl | rfl | rfl | rfl | rfl | rfl | rfl <;> simp [vE, en_cI, en_wI, pr, va_cpy, hi]
  · show _ = M.1 (17 + 14) i
    simp [vE, en_cI, en_wI, pr, va_cpy, hi]
  · show _ = M.1 (17 + 15) i
    simp [vE, en_cI, en_wI, pr, va_cpy, hi]
  · show _ = M.1 (17 + 9 + 1 + 1 * p) i
    rcases (show p = 0 ∨ p = 1 ∨ p = 2 ∨ p = 3 by omega) with rfl | rfl | rfl | rfl <;> simp [vE, en_cI, en_wI, pr, va_cpy, hi]
