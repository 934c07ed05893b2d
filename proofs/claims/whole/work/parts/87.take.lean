/-! an evening taken over, in the reference -/
def cp1 (M M' : Mm) (a c n : Nat) : Prop := M'.2 = M.2 ∧ (∀ b, b ≠ c → M'.1 b = M.1 b) ∧ ∀ i, i < n → M'.1 c i = M.1 a i
theorem cp1_pr {M : Mm} {a c n : Nat} : cp1 M (pr M c (M.1 a) n) a c n := ⟨rfl, fun b hb => pr_ne hb, fun i hi => by simp [pr, hi]⟩
def cpdM (M M' : Mm) (b o : Nat) : Prop := M'.2 = M.2 ∧ (∀ a, a ≠ b → (a < b + 17 ∨ b + 32 ≤ a) → M'.1 a = M.1 a) ∧ (∀ i, i ≠ 9 → i ≠ 10 → i ≠ 18 → i ≠ 23 → M'.1 b i = M.1 b i) ∧ evq (vM M' b) (vM M o)
theorem L_copied {post : Option AV → Mm → Prop} (M : Mm) (a c m : Nat) (hac : a ≠ c) (hm : m ≤ 100) (hx : post none (pr M c (M.1 a) m)) : ∀ (n : Nat) (i : Nat), (i + n = m) → en_AW 1 0 238 post 2 [some (.inr (.inr (2, m, a))), some (.inr (.inr (2, m, c))), some (.inl ((i : Nat) : Int))] [] (pr M c (M.1 a) i) 0 := by
  intro n
  induction n with
  | zero =>
    intro i hi
    refine aw_238_2 ?_
    refine br_ge_y (a := ((i : Nat) : Int)) (b := ((m : Nat) : Int)) (by omega) (by omega) (by omega) ?_
    refine aw_238_20 ?_
    rw [show i = m by omega]
    exact hx
  | succ n ih =>
    intro i hi
    refine aw_238_2 ?_
    refine br_ge_n (a := ((i : Nat) : Int)) (b := ((m : Nat) : Int)) (by omega) (by omega) (by omega) ?_
    refine ⟨i, rfl, (show i < m by omega), ?_⟩
    refine ⟨i, rfl, (show i < m by omega), ?_⟩
    refine en_AW_M (show en_wI (pr M c (M.1 a) i) c i ((pr M c (M.1 a) i).1 a i) = pr M c (M.1 a) (i + 1) from pr_step (by rw [pr_ne hac])) ?_
    exact ih (i + 1) (by omega)
theorem R_copied (M : Mm) (a c m : Nat) (hac : a ≠ c) (hm : m ≤ 100) : en_Ct 1 0 238 [.inr (.inr (2, m, a)), .inr (.inr (2, m, c))] M (fun r M' => r = none ∧ cp1 M M' a c m) := by
  refine ct_238 rfl ?_
  refine aw_238_0 ?_
  refine en_AW_M (pr_0 (M := M) (a := c) (f := M.1 a)).symm ?_
  exact L_copied M a c m hac hm ⟨rfl, cp1_pr⟩ m 0 (by omega)
theorem R_take_84_158 (M : Mm) : en_Ct 3 0 239 [.inr (.inr (1, 6, 84)), .inr (.inr (1, 6, 158))] M (fun r M' => r = none ∧ cpdM M M' 84 158) := by
  refine ct_239 rfl ?_
  refine aw_239_0 ?_
  refine ⟨1, 0, by first | decide | omega, by first | decide | omega, en_Ct_mono (R_copied (en_wI (en_wI M 84 9 (M.1 158 9)) 84 10 ((en_wI M 84 9 (M.1 158 9)).1 158 10)) 175 101 24 (by decide) (by decide)) ?_⟩
  rintro _ K1 ⟨rfl, hK1⟩
  refine ⟨1, 0, by first | decide | omega, by first | decide | omega, en_Ct_mono (R_copied K1 176 102 24 (by decide) (by decide)) ?_⟩
  rintro _ K2 ⟨rfl, hK2⟩
  refine ⟨1, 0, by first | decide | omega, by first | decide | omega, en_Ct_mono (R_copied K2 177 103 24 (by decide) (by decide)) ?_⟩
  rintro _ K3 ⟨rfl, hK3⟩
  refine ⟨1, 0, by first | decide | omega, by first | decide | omega, en_Ct_mono (R_copied K3 178 104 24 (by decide) (by decide)) ?_⟩
  rintro _ K4 ⟨rfl, hK4⟩
  refine ⟨1, 0, by first | decide | omega, by first | decide | omega, en_Ct_mono (R_copied K4 179 105 24 (by decide) (by decide)) ?_⟩
  rintro _ K5 ⟨rfl, hK5⟩
  refine ⟨1, 0, by first | decide | omega, by first | decide | omega, en_Ct_mono (R_copied K5 180 106 24 (by decide) (by decide)) ?_⟩
  rintro _ K6 ⟨rfl, hK6⟩
  refine ⟨1, 0, by first | decide | omega, by first | decide | omega, en_Ct_mono (R_copied K6 181 107 24 (by decide) (by decide)) ?_⟩
  rintro _ K7 ⟨rfl, hK7⟩
  refine aw_239_103 ?_
  refine br_ge_n (by decide) (by decide) (by decide) ?_
  refine ⟨0, rfl, (show 0 < 4 by omega), ?_⟩
  refine ⟨0, rfl, (show 0 < 4 by omega), ?_⟩
  refine ⟨1, 0, by first | decide | omega, by first | decide | omega, en_Ct_mono (R_copied (en_wI K7 84 18 (K7.1 158 18)) (183 + 1 * 0) (109 + 1 * 0) 5 (by decide) (by decide)) ?_⟩
  rintro _ K9 ⟨rfl, hK9⟩
  refine aw_239_103 ?_
  refine br_ge_n (by decide) (by decide) (by decide) ?_
  refine ⟨1, rfl, (show 1 < 4 by omega), ?_⟩
  refine ⟨1, rfl, (show 1 < 4 by omega), ?_⟩
  refine ⟨1, 0, by first | decide | omega, by first | decide | omega, en_Ct_mono (R_copied K9 (183 + 1 * 1) (109 + 1 * 1) 5 (by decide) (by decide)) ?_⟩
  rintro _ K11 ⟨rfl, hK11⟩
  refine aw_239_103 ?_
  refine br_ge_n (by decide) (by decide) (by decide) ?_
  refine ⟨2, rfl, (show 2 < 4 by omega), ?_⟩
  refine ⟨2, rfl, (show 2 < 4 by omega), ?_⟩
  refine ⟨1, 0, by first | decide | omega, by first | decide | omega, en_Ct_mono (R_copied K11 (183 + 1 * 2) (109 + 1 * 2) 5 (by decide) (by decide)) ?_⟩
  rintro _ K13 ⟨rfl, hK13⟩
  refine aw_239_103 ?_
  refine br_ge_n (by decide) (by decide) (by decide) ?_
  refine ⟨3, rfl, (show 3 < 4 by omega), ?_⟩
  refine ⟨3, rfl, (show 3 < 4 by omega), ?_⟩
  refine ⟨1, 0, by first | decide | omega, by first | decide | omega, en_Ct_mono (R_copied K13 (183 + 1 * 3) (109 + 1 * 3) 5 (by decide) (by decide)) ?_⟩
  rintro _ K15 ⟨rfl, hK15⟩
  refine aw_239_103 ?_
  refine br_ge_y (by decide) (by decide) (by decide) ?_
  refine aw_239_129 ?_
  refine ⟨1, 0, by first | decide | omega, by first | decide | omega, en_Ct_mono (R_copied K15 187 113 4 (by decide) (by decide)) ?_⟩
  rintro _ K17 ⟨rfl, hK17⟩
  refine ⟨1, 0, by first | decide | omega, by first | decide | omega, en_Ct_mono (R_copied K17 188 114 4 (by decide) (by decide)) ?_⟩
  rintro _ K18 ⟨rfl, hK18⟩
  refine ⟨1, 0, by first | decide | omega, by first | decide | omega, en_Ct_mono (R_copied K18 189 115 8 (by decide) (by decide)) ?_⟩
  rintro _ K19 ⟨rfl, hK19⟩
  refine ⟨rfl, (show cpdM M (en_wI K19 84 23 (K19.1 158 23)) 84 158 from ?_)⟩
  refine ⟨?_, fun a h1 h2 => ?_, fun i i1 i2 i3 i4 => ?_, fun i hi => ?_, fun i hi => ?_, fun r i h2 h8 hi => ?_, fun i hi => ⟨?_, ?_⟩, fun p i hp hi => ?_⟩
  · simp only [en_wI, hK1.1, hK2.1, hK3.1, hK4.1, hK5.1, hK6.1, hK7.1, hK9.1, hK11.1, hK13.1, hK15.1, hK17.1, hK18.1, hK19.1]
  · have e : ∀ K : Mm, ∀ j : Nat, ∀ x : Int, (en_wI K 84 j x).1 a = K.1 a := fun K j x => wI_ne h1
    rw [e, hK19.2.1 a (by omega), hK18.2.1 a (by omega), hK17.2.1 a (by omega), hK15.2.1 a (by omega), hK13.2.1 a (by omega), hK11.2.1 a (by omega), hK9.2.1 a (by omega), e, hK7.2.1 a (by omega), hK6.2.1 a (by omega), hK5.2.1 a (by omega), hK4.2.1 a (by omega), hK3.2.1 a (by omega), hK2.2.1 a (by omega), hK1.2.1 a (by omega), e, e]
  · have e : ∀ K : Mm, ∀ j : Nat, ∀ x : Int, j ≠ i → (en_wI K 84 j x).1 84 i = K.1 84 i := fun K j x hj => by simp [en_wI, Ne.symm hj]
    rw [e _ 23 _ (by omega), hK19.2.1 84 (by decide), hK18.2.1 84 (by decide), hK17.2.1 84 (by decide), hK15.2.1 84 (by decide), hK13.2.1 84 (by decide), hK11.2.1 84 (by decide), hK9.2.1 84 (by decide), e _ 18 _ (by omega), hK7.2.1 84 (by decide), hK6.2.1 84 (by decide), hK5.2.1 84 (by decide), hK4.2.1 84 (by decide), hK3.2.1 84 (by decide), hK2.2.1 84 (by decide), hK1.2.1 84 (by decide), e _ 10 _ (by omega), e _ 9 _ (by omega)]
  · rcases (show i = 0 ∨ i = 1 ∨ i = 2 ∨ i = 3 by omega) with rfl | rfl | rfl | rfl <;> simp [vM, en_wI, hK1.2.1, hK2.2.1, hK3.2.1, hK4.2.1, hK5.2.1, hK6.2.1, hK7.2.1, hK9.2.1, hK11.2.1, hK13.2.1, hK15.2.1, hK17.2.1, hK18.2.1, hK19.2.1]
  · simp [vM, en_wI, hK1.2.1, hK2.2.1, hK3.2.1, hK4.2.1, hK5.2.1, hK6.2.1, hK7.2.1, hK9.2.1, hK11.2.1, hK13.2.1, hK15.2.1, hK17.2.1, hK18.2.1, hK19.2.1, hK1.2.2, hK2.2.2, hK3.2.2, hK4.2.2, hK5.2.2, hK6.2.2, hK7.2.2, hK9.2.2, hK11.2.2, hK13.2.2, hK15.2.2, hK17.2.2, hK18.2.2, hK19.2.2, hi]
  · rcases (show r = 2 ∨ r = 3 ∨ r = 4 ∨ r = 5 ∨ r = 6 ∨ r = 7 ∨ r = 8 by omega) with rfl | rfl | rfl | rfl | rfl | rfl | rfl <;> simp [vM, en_wI, hK1.2.1, hK2.2.1, hK3.2.1, hK4.2.1, hK5.2.1, hK6.2.1, hK7.2.1, hK9.2.1, hK11.2.1, hK13.2.1, hK15.2.1, hK17.2.1, hK18.2.1, hK19.2.1, hK1.2.2, hK2.2.2, hK3.2.2, hK4.2.2, hK5.2.2, hK6.2.2, hK7.2.2, hK9.2.2, hK11.2.2, hK13.2.2, hK15.2.2, hK17.2.2, hK18.2.2, hK19.2.2, hi]
  · simp [vM, en_wI, hK1.2.1, hK2.2.1, hK3.2.1, hK4.2.1, hK5.2.1, hK6.2.1, hK7.2.1, hK9.2.1, hK11.2.1, hK13.2.1, hK15.2.1, hK17.2.1, hK18.2.1, hK19.2.1, hK1.2.2, hK2.2.2, hK3.2.2, hK4.2.2, hK5.2.2, hK6.2.2, hK7.2.2, hK9.2.2, hK11.2.2, hK13.2.2, hK15.2.2, hK17.2.2, hK18.2.2, hK19.2.2, hi]
  · simp [vM, en_wI, hK1.2.1, hK2.2.1, hK3.2.1, hK4.2.1, hK5.2.1, hK6.2.1, hK7.2.1, hK9.2.1, hK11.2.1, hK13.2.1, hK15.2.1, hK17.2.1, hK18.2.1, hK19.2.1, hK1.2.2, hK2.2.2, hK3.2.2, hK4.2.2, hK5.2.2, hK6.2.2, hK7.2.2, hK9.2.2, hK11.2.2, hK13.2.2, hK15.2.2, hK17.2.2, hK18.2.2, hK19.2.2, hi]
  · rcases (show p = 0 ∨ p = 1 ∨ p = 2 ∨ p = 3 by omega) with rfl | rfl | rfl | rfl <;> simp [vM, en_wI, hK1.2.1, hK2.2.1, hK3.2.1, hK4.2.1, hK5.2.1, hK6.2.1, hK7.2.1, hK9.2.1, hK11.2.1, hK13.2.1, hK15.2.1, hK17.2.1, hK18.2.1, hK19.2.1, hK1.2.2, hK2.2.2, hK3.2.2, hK4.2.2, hK5.2.2, hK6.2.2, hK7.2.2, hK9.2.2, hK11.2.2, hK13.2.2, hK15.2.2, hK17.2.2, hK18.2.2, hK19.2.2, hi]
theorem R_take_121_84 (M : Mm) : en_Ct 3 0 239 [.inr (.inr (1, 6, 121)), .inr (.inr (1, 6, 84))] M (fun r M' => r = none ∧ cpdM M M' 121 84) := by
  refine ct_239 rfl ?_
  refine aw_239_0 ?_
  refine ⟨1, 0, by first | decide | omega, by first | decide | omega, en_Ct_mono (R_copied (en_wI (en_wI M 121 9 (M.1 84 9)) 121 10 ((en_wI M 121 9 (M.1 84 9)).1 84 10)) 101 138 24 (by decide) (by decide)) ?_⟩
  rintro _ K1 ⟨rfl, hK1⟩
  refine ⟨1, 0, by first | decide | omega, by first | decide | omega, en_Ct_mono (R_copied K1 102 139 24 (by decide) (by decide)) ?_⟩
  rintro _ K2 ⟨rfl, hK2⟩
  refine ⟨1, 0, by first | decide | omega, by first | decide | omega, en_Ct_mono (R_copied K2 103 140 24 (by decide) (by decide)) ?_⟩
  rintro _ K3 ⟨rfl, hK3⟩
  refine ⟨1, 0, by first | decide | omega, by first | decide | omega, en_Ct_mono (R_copied K3 104 141 24 (by decide) (by decide)) ?_⟩
  rintro _ K4 ⟨rfl, hK4⟩
  refine ⟨1, 0, by first | decide | omega, by first | decide | omega, en_Ct_mono (R_copied K4 105 142 24 (by decide) (by decide)) ?_⟩
  rintro _ K5 ⟨rfl, hK5⟩
  refine ⟨1, 0, by first | decide | omega, by first | decide | omega, en_Ct_mono (R_copied K5 106 143 24 (by decide) (by decide)) ?_⟩
  rintro _ K6 ⟨rfl, hK6⟩
  refine ⟨1, 0, by first | decide | omega, by first | decide | omega, en_Ct_mono (R_copied K6 107 144 24 (by decide) (by decide)) ?_⟩
  rintro _ K7 ⟨rfl, hK7⟩
  refine aw_239_103 ?_
  refine br_ge_n (by decide) (by decide) (by decide) ?_
  refine ⟨0, rfl, (show 0 < 4 by omega), ?_⟩
  refine ⟨0, rfl, (show 0 < 4 by omega), ?_⟩
  refine ⟨1, 0, by first | decide | omega, by first | decide | omega, en_Ct_mono (R_copied (en_wI K7 121 18 (K7.1 84 18)) (109 + 1 * 0) (146 + 1 * 0) 5 (by decide) (by decide)) ?_⟩
  rintro _ K9 ⟨rfl, hK9⟩
  refine aw_239_103 ?_
  refine br_ge_n (by decide) (by decide) (by decide) ?_
  refine ⟨1, rfl, (show 1 < 4 by omega), ?_⟩
  refine ⟨1, rfl, (show 1 < 4 by omega), ?_⟩
  refine ⟨1, 0, by first | decide | omega, by first | decide | omega, en_Ct_mono (R_copied K9 (109 + 1 * 1) (146 + 1 * 1) 5 (by decide) (by decide)) ?_⟩
  rintro _ K11 ⟨rfl, hK11⟩
  refine aw_239_103 ?_
  refine br_ge_n (by decide) (by decide) (by decide) ?_
  refine ⟨2, rfl, (show 2 < 4 by omega), ?_⟩
  refine ⟨2, rfl, (show 2 < 4 by omega), ?_⟩
  refine ⟨1, 0, by first | decide | omega, by first | decide | omega, en_Ct_mono (R_copied K11 (109 + 1 * 2) (146 + 1 * 2) 5 (by decide) (by decide)) ?_⟩
  rintro _ K13 ⟨rfl, hK13⟩
  refine aw_239_103 ?_
  refine br_ge_n (by decide) (by decide) (by decide) ?_
  refine ⟨3, rfl, (show 3 < 4 by omega), ?_⟩
  refine ⟨3, rfl, (show 3 < 4 by omega), ?_⟩
  refine ⟨1, 0, by first | decide | omega, by first | decide | omega, en_Ct_mono (R_copied K13 (109 + 1 * 3) (146 + 1 * 3) 5 (by decide) (by decide)) ?_⟩
  rintro _ K15 ⟨rfl, hK15⟩
  refine aw_239_103 ?_
  refine br_ge_y (by decide) (by decide) (by decide) ?_
  refine aw_239_129 ?_
  refine ⟨1, 0, by first | decide | omega, by first | decide | omega, en_Ct_mono (R_copied K15 113 150 4 (by decide) (by decide)) ?_⟩
  rintro _ K17 ⟨rfl, hK17⟩
  refine ⟨1, 0, by first | decide | omega, by first | decide | omega, en_Ct_mono (R_copied K17 114 151 4 (by decide) (by decide)) ?_⟩
  rintro _ K18 ⟨rfl, hK18⟩
  refine ⟨1, 0, by first | decide | omega, by first | decide | omega, en_Ct_mono (R_copied K18 115 152 8 (by decide) (by decide)) ?_⟩
  rintro _ K19 ⟨rfl, hK19⟩
  refine ⟨rfl, (show cpdM M (en_wI K19 121 23 (K19.1 84 23)) 121 84 from ?_)⟩
  refine ⟨?_, fun a h1 h2 => ?_, fun i i1 i2 i3 i4 => ?_, fun i hi => ?_, fun i hi => ?_, fun r i h2 h8 hi => ?_, fun i hi => ⟨?_, ?_⟩, fun p i hp hi => ?_⟩
  · simp only [en_wI, hK1.1, hK2.1, hK3.1, hK4.1, hK5.1, hK6.1, hK7.1, hK9.1, hK11.1, hK13.1, hK15.1, hK17.1, hK18.1, hK19.1]
  · have e : ∀ K : Mm, ∀ j : Nat, ∀ x : Int, (en_wI K 121 j x).1 a = K.1 a := fun K j x => wI_ne h1
    rw [e, hK19.2.1 a (by omega), hK18.2.1 a (by omega), hK17.2.1 a (by omega), hK15.2.1 a (by omega), hK13.2.1 a (by omega), hK11.2.1 a (by omega), hK9.2.1 a (by omega), e, hK7.2.1 a (by omega), hK6.2.1 a (by omega), hK5.2.1 a (by omega), hK4.2.1 a (by omega), hK3.2.1 a (by omega), hK2.2.1 a (by omega), hK1.2.1 a (by omega), e, e]
  · have e : ∀ K : Mm, ∀ j : Nat, ∀ x : Int, j ≠ i → (en_wI K 121 j x).1 121 i = K.1 121 i := fun K j x hj => by simp [en_wI, Ne.symm hj]
    rw [e _ 23 _ (by omega), hK19.2.1 121 (by decide), hK18.2.1 121 (by decide), hK17.2.1 121 (by decide), hK15.2.1 121 (by decide), hK13.2.1 121 (by decide), hK11.2.1 121 (by decide), hK9.2.1 121 (by decide), e _ 18 _ (by omega), hK7.2.1 121 (by decide), hK6.2.1 121 (by decide), hK5.2.1 121 (by decide), hK4.2.1 121 (by decide), hK3.2.1 121 (by decide), hK2.2.1 121 (by decide), hK1.2.1 121 (by decide), e _ 10 _ (by omega), e _ 9 _ (by omega)]
  · rcases (show i = 0 ∨ i = 1 ∨ i = 2 ∨ i = 3 by omega) with rfl | rfl | rfl | rfl <;> simp [vM, en_wI, hK1.2.1, hK2.2.1, hK3.2.1, hK4.2.1, hK5.2.1, hK6.2.1, hK7.2.1, hK9.2.1, hK11.2.1, hK13.2.1, hK15.2.1, hK17.2.1, hK18.2.1, hK19.2.1]
  · simp [vM, en_wI, hK1.2.1, hK2.2.1, hK3.2.1, hK4.2.1, hK5.2.1, hK6.2.1, hK7.2.1, hK9.2.1, hK11.2.1, hK13.2.1, hK15.2.1, hK17.2.1, hK18.2.1, hK19.2.1, hK1.2.2, hK2.2.2, hK3.2.2, hK4.2.2, hK5.2.2, hK6.2.2, hK7.2.2, hK9.2.2, hK11.2.2, hK13.2.2, hK15.2.2, hK17.2.2, hK18.2.2, hK19.2.2, hi]
  · rcases (show r = 2 ∨ r = 3 ∨ r = 4 ∨ r = 5 ∨ r = 6 ∨ r = 7 ∨ r = 8 by omega) with rfl | rfl | rfl | rfl | rfl | rfl | rfl <;> simp [vM, en_wI, hK1.2.1, hK2.2.1, hK3.2.1, hK4.2.1, hK5.2.1, hK6.2.1, hK7.2.1, hK9.2.1, hK11.2.1, hK13.2.1, hK15.2.1, hK17.2.1, hK18.2.1, hK19.2.1, hK1.2.2, hK2.2.2, hK3.2.2, hK4.2.2, hK5.2.2, hK6.2.2, hK7.2.2, hK9.2.2, hK11.2.2, hK13.2.2, hK15.2.2, hK17.2.2, hK18.2.2, hK19.2.2, hi]
  · simp [vM, en_wI, hK1.2.1, hK2.2.1, hK3.2.1, hK4.2.1, hK5.2.1, hK6.2.1, hK7.2.1, hK9.2.1, hK11.2.1, hK13.2.1, hK15.2.1, hK17.2.1, hK18.2.1, hK19.2.1, hK1.2.2, hK2.2.2, hK3.2.2, hK4.2.2, hK5.2.2, hK6.2.2, hK7.2.2, hK9.2.2, hK11.2.2, hK13.2.2, hK15.2.2, hK17.2.2, hK18.2.2, hK19.2.2, hi]
  · simp [vM, en_wI, hK1.2.1, hK2.2.1, hK3.2.1, hK4.2.1, hK5.2.1, hK6.2.1, hK7.2.1, hK9.2.1, hK11.2.1, hK13.2.1, hK15.2.1, hK17.2.1, hK18.2.1, hK19.2.1, hK1.2.2, hK2.2.2, hK3.2.2, hK4.2.2, hK5.2.2, hK6.2.2, hK7.2.2, hK9.2.2, hK11.2.2, hK13.2.2, hK15.2.2, hK17.2.2, hK18.2.2, hK19.2.2, hi]
  · rcases (show p = 0 ∨ p = 1 ∨ p = 2 ∨ p = 3 by omega) with rfl | rfl | rfl | rfl <;> simp [vM, en_wI, hK1.2.1, hK2.2.1, hK3.2.1, hK4.2.1, hK5.2.1, hK6.2.1, hK7.2.1, hK9.2.1, hK11.2.1, hK13.2.1, hK15.2.1, hK17.2.1, hK18.2.1, hK19.2.1, hK1.2.2, hK2.2.2, hK3.2.2, hK4.2.2, hK5.2.2, hK6.2.2, hK7.2.2, hK9.2.2, hK11.2.2, hK13.2.2, hK15.2.2, hK17.2.2, hK18.2.2, hK19.2.2, hi]
theorem R_take_158_84 (M : Mm) : en_Ct 3 0 239 [.inr (.inr (1, 6, 158)), .inr (.inr (1, 6, 84))] M (fun r M' => r = none ∧ cpdM M M' 158 84) := by
  refine ct_239 rfl ?_
  refine aw_239_0 ?_
  refine ⟨1, 0, by first | decide | omega, by first | decide | omega, en_Ct_mono (R_copied (en_wI (en_wI M 158 9 (M.1 84 9)) 158 10 ((en_wI M 158 9 (M.1 84 9)).1 84 10)) 101 175 24 (by decide) (by decide)) ?_⟩
  rintro _ K1 ⟨rfl, hK1⟩
  refine ⟨1, 0, by first | decide | omega, by first | decide | omega, en_Ct_mono (R_copied K1 102 176 24 (by decide) (by decide)) ?_⟩
  rintro _ K2 ⟨rfl, hK2⟩
  refine ⟨1, 0, by first | decide | omega, by first | decide | omega, en_Ct_mono (R_copied K2 103 177 24 (by decide) (by decide)) ?_⟩
  rintro _ K3 ⟨rfl, hK3⟩
  refine ⟨1, 0, by first | decide | omega, by first | decide | omega, en_Ct_mono (R_copied K3 104 178 24 (by decide) (by decide)) ?_⟩
  rintro _ K4 ⟨rfl, hK4⟩
  refine ⟨1, 0, by first | decide | omega, by first | decide | omega, en_Ct_mono (R_copied K4 105 179 24 (by decide) (by decide)) ?_⟩
  rintro _ K5 ⟨rfl, hK5⟩
  refine ⟨1, 0, by first | decide | omega, by first | decide | omega, en_Ct_mono (R_copied K5 106 180 24 (by decide) (by decide)) ?_⟩
  rintro _ K6 ⟨rfl, hK6⟩
  refine ⟨1, 0, by first | decide | omega, by first | decide | omega, en_Ct_mono (R_copied K6 107 181 24 (by decide) (by decide)) ?_⟩
  rintro _ K7 ⟨rfl, hK7⟩
  refine aw_239_103 ?_
  refine br_ge_n (by decide) (by decide) (by decide) ?_
  refine ⟨0, rfl, (show 0 < 4 by omega), ?_⟩
  refine ⟨0, rfl, (show 0 < 4 by omega), ?_⟩
  refine ⟨1, 0, by first | decide | omega, by first | decide | omega, en_Ct_mono (R_copied (en_wI K7 158 18 (K7.1 84 18)) (109 + 1 * 0) (183 + 1 * 0) 5 (by decide) (by decide)) ?_⟩
  rintro _ K9 ⟨rfl, hK9⟩
  refine aw_239_103 ?_
  refine br_ge_n (by decide) (by decide) (by decide) ?_
  refine ⟨1, rfl, (show 1 < 4 by omega), ?_⟩
  refine ⟨1, rfl, (show 1 < 4 by omega), ?_⟩
  refine ⟨1, 0, by first | decide | omega, by first | decide | omega, en_Ct_mono (R_copied K9 (109 + 1 * 1) (183 + 1 * 1) 5 (by decide) (by decide)) ?_⟩
  rintro _ K11 ⟨rfl, hK11⟩
  refine aw_239_103 ?_
  refine br_ge_n (by decide) (by decide) (by decide) ?_
  refine ⟨2, rfl, (show 2 < 4 by omega), ?_⟩
  refine ⟨2, rfl, (show 2 < 4 by omega), ?_⟩
  refine ⟨1, 0, by first | decide | omega, by first | decide | omega, en_Ct_mono (R_copied K11 (109 + 1 * 2) (183 + 1 * 2) 5 (by decide) (by decide)) ?_⟩
  rintro _ K13 ⟨rfl, hK13⟩
  refine aw_239_103 ?_
  refine br_ge_n (by decide) (by decide) (by decide) ?_
  refine ⟨3, rfl, (show 3 < 4 by omega), ?_⟩
  refine ⟨3, rfl, (show 3 < 4 by omega), ?_⟩
  refine ⟨1, 0, by first | decide | omega, by first | decide | omega, en_Ct_mono (R_copied K13 (109 + 1 * 3) (183 + 1 * 3) 5 (by decide) (by decide)) ?_⟩
  rintro _ K15 ⟨rfl, hK15⟩
  refine aw_239_103 ?_
  refine br_ge_y (by decide) (by decide) (by decide) ?_
  refine aw_239_129 ?_
  refine ⟨1, 0, by first | decide | omega, by first | decide | omega, en_Ct_mono (R_copied K15 113 187 4 (by decide) (by decide)) ?_⟩
  rintro _ K17 ⟨rfl, hK17⟩
  refine ⟨1, 0, by first | decide | omega, by first | decide | omega, en_Ct_mono (R_copied K17 114 188 4 (by decide) (by decide)) ?_⟩
  rintro _ K18 ⟨rfl, hK18⟩
  refine ⟨1, 0, by first | decide | omega, by first | decide | omega, en_Ct_mono (R_copied K18 115 189 8 (by decide) (by decide)) ?_⟩
  rintro _ K19 ⟨rfl, hK19⟩
  refine ⟨rfl, (show cpdM M (en_wI K19 158 23 (K19.1 84 23)) 158 84 from ?_)⟩
  refine ⟨?_, fun a h1 h2 => ?_, fun i i1 i2 i3 i4 => ?_, fun i hi => ?_, fun i hi => ?_, fun r i h2 h8 hi => ?_, fun i hi => ⟨?_, ?_⟩, fun p i hp hi => ?_⟩
  · simp only [en_wI, hK1.1, hK2.1, hK3.1, hK4.1, hK5.1, hK6.1, hK7.1, hK9.1, hK11.1, hK13.1, hK15.1, hK17.1, hK18.1, hK19.1]
  · have e : ∀ K : Mm, ∀ j : Nat, ∀ x : Int, (en_wI K 158 j x).1 a = K.1 a := fun K j x => wI_ne h1
    rw [e, hK19.2.1 a (by omega), hK18.2.1 a (by omega), hK17.2.1 a (by omega), hK15.2.1 a (by omega), hK13.2.1 a (by omega), hK11.2.1 a (by omega), hK9.2.1 a (by omega), e, hK7.2.1 a (by omega), hK6.2.1 a (by omega), hK5.2.1 a (by omega), hK4.2.1 a (by omega), hK3.2.1 a (by omega), hK2.2.1 a (by omega), hK1.2.1 a (by omega), e, e]
  · have e : ∀ K : Mm, ∀ j : Nat, ∀ x : Int, j ≠ i → (en_wI K 158 j x).1 158 i = K.1 158 i := fun K j x hj => by simp [en_wI, Ne.symm hj]
    rw [e _ 23 _ (by omega), hK19.2.1 158 (by decide), hK18.2.1 158 (by decide), hK17.2.1 158 (by decide), hK15.2.1 158 (by decide), hK13.2.1 158 (by decide), hK11.2.1 158 (by decide), hK9.2.1 158 (by decide), e _ 18 _ (by omega), hK7.2.1 158 (by decide), hK6.2.1 158 (by decide), hK5.2.1 158 (by decide), hK4.2.1 158 (by decide), hK3.2.1 158 (by decide), hK2.2.1 158 (by decide), hK1.2.1 158 (by decide), e _ 10 _ (by omega), e _ 9 _ (by omega)]
  · rcases (show i = 0 ∨ i = 1 ∨ i = 2 ∨ i = 3 by omega) with rfl | rfl | rfl | rfl <;> simp [vM, en_wI, hK1.2.1, hK2.2.1, hK3.2.1, hK4.2.1, hK5.2.1, hK6.2.1, hK7.2.1, hK9.2.1, hK11.2.1, hK13.2.1, hK15.2.1, hK17.2.1, hK18.2.1, hK19.2.1]
  · simp [vM, en_wI, hK1.2.1, hK2.2.1, hK3.2.1, hK4.2.1, hK5.2.1, hK6.2.1, hK7.2.1, hK9.2.1, hK11.2.1, hK13.2.1, hK15.2.1, hK17.2.1, hK18.2.1, hK19.2.1, hK1.2.2, hK2.2.2, hK3.2.2, hK4.2.2, hK5.2.2, hK6.2.2, hK7.2.2, hK9.2.2, hK11.2.2, hK13.2.2, hK15.2.2, hK17.2.2, hK18.2.2, hK19.2.2, hi]
  · rcases (show r = 2 ∨ r = 3 ∨ r = 4 ∨ r = 5 ∨ r = 6 ∨ r = 7 ∨ r = 8 by omega) with rfl | rfl | rfl | rfl | rfl | rfl | rfl <;> simp [vM, en_wI, hK1.2.1, hK2.2.1, hK3.2.1, hK4.2.1, hK5.2.1, hK6.2.1, hK7.2.1, hK9.2.1, hK11.2.1, hK13.2.1, hK15.2.1, hK17.2.1, hK18.2.1, hK19.2.1, hK1.2.2, hK2.2.2, hK3.2.2, hK4.2.2, hK5.2.2, hK6.2.2, hK7.2.2, hK9.2.2, hK11.2.2, hK13.2.2, hK15.2.2, hK17.2.2, hK18.2.2, hK19.2.2, hi]
  · simp [vM, en_wI, hK1.2.1, hK2.2.1, hK3.2.1, hK4.2.1, hK5.2.1, hK6.2.1, hK7.2.1, hK9.2.1, hK11.2.1, hK13.2.1, hK15.2.1, hK17.2.1, hK18.2.1, hK19.2.1, hK1.2.2, hK2.2.2, hK3.2.2, hK4.2.2, hK5.2.2, hK6.2.2, hK7.2.2, hK9.2.2, hK11.2.2, hK13.2.2, hK15.2.2, hK17.2.2, hK18.2.2, hK19.2.2, hi]
  · simp [vM, en_wI, hK1.2.1, hK2.2.1, hK3.2.1, hK4.2.1, hK5.2.1, hK6.2.1, hK7.2.1, hK9.2.1, hK11.2.1, hK13.2.1, hK15.2.1, hK17.2.1, hK18.2.1, hK19.2.1, hK1.2.2, hK2.2.2, hK3.2.2, hK4.2.2, hK5.2.2, hK6.2.2, hK7.2.2, hK9.2.2, hK11.2.2, hK13.2.2, hK15.2.2, hK17.2.2, hK18.2.2, hK19.2.2, hi]
  · rcases (show p = 0 ∨ p = 1 ∨ p = 2 ∨ p = 3 by omega) with rfl | rfl | rfl | rfl <;> simp [vM, en_wI, hK1.2.1, hK2.2.1, hK3.2.1, hK4.2.1, hK5.2.1, hK6.2.1, hK7.2.1, hK9.2.1, hK11.2.1, hK13.2.1, hK15.2.1, hK17.2.1, hK18.2.1, hK19.2.1, hK1.2.2, hK2.2.2, hK3.2.2, hK4.2.2, hK5.2.2, hK6.2.2, hK7.2.2, hK9.2.2, hK11.2.2, hK13.2.2, hK15.2.2, hK17.2.2, hK18.2.2, hK19.2.2, hi]
theorem R_take_84_121 (M : Mm) : en_Ct 3 0 239 [.inr (.inr (1, 6, 84)), .inr (.inr (1, 6, 121))] M (fun r M' => r = none ∧ cpdM M M' 84 121) := by
  refine ct_239 rfl ?_
  refine aw_239_0 ?_
  refine ⟨1, 0, by first | decide | omega, by first | decide | omega, en_Ct_mono (R_copied (en_wI (en_wI M 84 9 (M.1 121 9)) 84 10 ((en_wI M 84 9 (M.1 121 9)).1 121 10)) 138 101 24 (by decide) (by decide)) ?_⟩
  rintro _ K1 ⟨rfl, hK1⟩
  refine ⟨1, 0, by first | decide | omega, by first | decide | omega, en_Ct_mono (R_copied K1 139 102 24 (by decide) (by decide)) ?_⟩
  rintro _ K2 ⟨rfl, hK2⟩
  refine ⟨1, 0, by first | decide | omega, by first | decide | omega, en_Ct_mono (R_copied K2 140 103 24 (by decide) (by decide)) ?_⟩
  rintro _ K3 ⟨rfl, hK3⟩
  refine ⟨1, 0, by first | decide | omega, by first | decide | omega, en_Ct_mono (R_copied K3 141 104 24 (by decide) (by decide)) ?_⟩
  rintro _ K4 ⟨rfl, hK4⟩
  refine ⟨1, 0, by first | decide | omega, by first | decide | omega, en_Ct_mono (R_copied K4 142 105 24 (by decide) (by decide)) ?_⟩
  rintro _ K5 ⟨rfl, hK5⟩
  refine ⟨1, 0, by first | decide | omega, by first | decide | omega, en_Ct_mono (R_copied K5 143 106 24 (by decide) (by decide)) ?_⟩
  rintro _ K6 ⟨rfl, hK6⟩
  refine ⟨1, 0, by first | decide | omega, by first | decide | omega, en_Ct_mono (R_copied K6 144 107 24 (by decide) (by decide)) ?_⟩
  rintro _ K7 ⟨rfl, hK7⟩
  refine aw_239_103 ?_
  refine br_ge_n (by decide) (by decide) (by decide) ?_
  refine ⟨0, rfl, (show 0 < 4 by omega), ?_⟩
  refine ⟨0, rfl, (show 0 < 4 by omega), ?_⟩
  refine ⟨1, 0, by first | decide | omega, by first | decide | omega, en_Ct_mono (R_copied (en_wI K7 84 18 (K7.1 121 18)) (146 + 1 * 0) (109 + 1 * 0) 5 (by decide) (by decide)) ?_⟩
  rintro _ K9 ⟨rfl, hK9⟩
  refine aw_239_103 ?_
  refine br_ge_n (by decide) (by decide) (by decide) ?_
  refine ⟨1, rfl, (show 1 < 4 by omega), ?_⟩
  refine ⟨1, rfl, (show 1 < 4 by omega), ?_⟩
  refine ⟨1, 0, by first | decide | omega, by first | decide | omega, en_Ct_mono (R_copied K9 (146 + 1 * 1) (109 + 1 * 1) 5 (by decide) (by decide)) ?_⟩
  rintro _ K11 ⟨rfl, hK11⟩
  refine aw_239_103 ?_
  refine br_ge_n (by decide) (by decide) (by decide) ?_
  refine ⟨2, rfl, (show 2 < 4 by omega), ?_⟩
  refine ⟨2, rfl, (show 2 < 4 by omega), ?_⟩
  refine ⟨1, 0, by first | decide | omega, by first | decide | omega, en_Ct_mono (R_copied K11 (146 + 1 * 2) (109 + 1 * 2) 5 (by decide) (by decide)) ?_⟩
  rintro _ K13 ⟨rfl, hK13⟩
  refine aw_239_103 ?_
  refine br_ge_n (by decide) (by decide) (by decide) ?_
  refine ⟨3, rfl, (show 3 < 4 by omega), ?_⟩
  refine ⟨3, rfl, (show 3 < 4 by omega), ?_⟩
  refine ⟨1, 0, by first | decide | omega, by first | decide | omega, en_Ct_mono (R_copied K13 (146 + 1 * 3) (109 + 1 * 3) 5 (by decide) (by decide)) ?_⟩
  rintro _ K15 ⟨rfl, hK15⟩
  refine aw_239_103 ?_
  refine br_ge_y (by decide) (by decide) (by decide) ?_
  refine aw_239_129 ?_
  refine ⟨1, 0, by first | decide | omega, by first | decide | omega, en_Ct_mono (R_copied K15 150 113 4 (by decide) (by decide)) ?_⟩
  rintro _ K17 ⟨rfl, hK17⟩
  refine ⟨1, 0, by first | decide | omega, by first | decide | omega, en_Ct_mono (R_copied K17 151 114 4 (by decide) (by decide)) ?_⟩
  rintro _ K18 ⟨rfl, hK18⟩
  refine ⟨1, 0, by first | decide | omega, by first | decide | omega, en_Ct_mono (R_copied K18 152 115 8 (by decide) (by decide)) ?_⟩
  rintro _ K19 ⟨rfl, hK19⟩
  refine ⟨rfl, (show cpdM M (en_wI K19 84 23 (K19.1 121 23)) 84 121 from ?_)⟩
  refine ⟨?_, fun a h1 h2 => ?_, fun i i1 i2 i3 i4 => ?_, fun i hi => ?_, fun i hi => ?_, fun r i h2 h8 hi => ?_, fun i hi => ⟨?_, ?_⟩, fun p i hp hi => ?_⟩
  · simp only [en_wI, hK1.1, hK2.1, hK3.1, hK4.1, hK5.1, hK6.1, hK7.1, hK9.1, hK11.1, hK13.1, hK15.1, hK17.1, hK18.1, hK19.1]
  · have e : ∀ K : Mm, ∀ j : Nat, ∀ x : Int, (en_wI K 84 j x).1 a = K.1 a := fun K j x => wI_ne h1
    rw [e, hK19.2.1 a (by omega), hK18.2.1 a (by omega), hK17.2.1 a (by omega), hK15.2.1 a (by omega), hK13.2.1 a (by omega), hK11.2.1 a (by omega), hK9.2.1 a (by omega), e, hK7.2.1 a (by omega), hK6.2.1 a (by omega), hK5.2.1 a (by omega), hK4.2.1 a (by omega), hK3.2.1 a (by omega), hK2.2.1 a (by omega), hK1.2.1 a (by omega), e, e]
  · have e : ∀ K : Mm, ∀ j : Nat, ∀ x : Int, j ≠ i → (en_wI K 84 j x).1 84 i = K.1 84 i := fun K j x hj => by simp [en_wI, Ne.symm hj]
    rw [e _ 23 _ (by omega), hK19.2.1 84 (by decide), hK18.2.1 84 (by decide), hK17.2.1 84 (by decide), hK15.2.1 84 (by decide), hK13.2.1 84 (by decide), hK11.2.1 84 (by decide), hK9.2.1 84 (by decide), e _ 18 _ (by omega), hK7.2.1 84 (by decide), hK6.2.1 84 (by decide), hK5.2.1 84 (by decide), hK4.2.1 84 (by decide), hK3.2.1 84 (by decide), hK2.2.1 84 (by decide), hK1.2.1 84 (by decide), e _ 10 _ (by omega), e _ 9 _ (by omega)]
  · rcases (show i = 0 ∨ i = 1 ∨ i = 2 ∨ i = 3 by omega) with rfl | rfl | rfl | rfl <;> simp [vM, en_wI, hK1.2.1, hK2.2.1, hK3.2.1, hK4.2.1, hK5.2.1, hK6.2.1, hK7.2.1, hK9.2.1, hK11.2.1, hK13.2.1, hK15.2.1, hK17.2.1, hK18.2.1, hK19.2.1]
  · simp [vM, en_wI, hK1.2.1, hK2.2.1, hK3.2.1, hK4.2.1, hK5.2.1, hK6.2.1, hK7.2.1, hK9.2.1, hK11.2.1, hK13.2.1, hK15.2.1, hK17.2.1, hK18.2.1, hK19.2.1, hK1.2.2, hK2.2.2, hK3.2.2, hK4.2.2, hK5.2.2, hK6.2.2, hK7.2.2, hK9.2.2, hK11.2.2, hK13.2.2, hK15.2.2, hK17.2.2, hK18.2.2, hK19.2.2, hi]
  · rcases (show r = 2 ∨ r = 3 ∨ r = 4 ∨ r = 5 ∨ r = 6 ∨ r = 7 ∨ r = 8 by omega) with rfl | rfl | rfl | rfl | rfl | rfl | rfl <;> simp [vM, en_wI, hK1.2.1, hK2.2.1, hK3.2.1, hK4.2.1, hK5.2.1, hK6.2.1, hK7.2.1, hK9.2.1, hK11.2.1, hK13.2.1, hK15.2.1, hK17.2.1, hK18.2.1, hK19.2.1, hK1.2.2, hK2.2.2, hK3.2.2, hK4.2.2, hK5.2.2, hK6.2.2, hK7.2.2, hK9.2.2, hK11.2.2, hK13.2.2, hK15.2.2, hK17.2.2, hK18.2.2, hK19.2.2, hi]
  · simp [vM, en_wI, hK1.2.1, hK2.2.1, hK3.2.1, hK4.2.1, hK5.2.1, hK6.2.1, hK7.2.1, hK9.2.1, hK11.2.1, hK13.2.1, hK15.2.1, hK17.2.1, hK18.2.1, hK19.2.1, hK1.2.2, hK2.2.2, hK3.2.2, hK4.2.2, hK5.2.2, hK6.2.2, hK7.2.2, hK9.2.2, hK11.2.2, hK13.2.2, hK15.2.2, hK17.2.2, hK18.2.2, hK19.2.2, hi]
  · simp [vM, en_wI, hK1.2.1, hK2.2.1, hK3.2.1, hK4.2.1, hK5.2.1, hK6.2.1, hK7.2.1, hK9.2.1, hK11.2.1, hK13.2.1, hK15.2.1, hK17.2.1, hK18.2.1, hK19.2.1, hK1.2.2, hK2.2.2, hK3.2.2, hK4.2.2, hK5.2.2, hK6.2.2, hK7.2.2, hK9.2.2, hK11.2.2, hK13.2.2, hK15.2.2, hK17.2.2, hK18.2.2, hK19.2.2, hi]
  · rcases (show p = 0 ∨ p = 1 ∨ p = 2 ∨ p = 3 by omega) with rfl | rfl | rfl | rfl <;> simp [vM, en_wI, hK1.2.1, hK2.2.1, hK3.2.1, hK4.2.1, hK5.2.1, hK6.2.1, hK7.2.1, hK9.2.1, hK11.2.1, hK13.2.1, hK15.2.1, hK17.2.1, hK18.2.1, hK19.2.1, hK1.2.2, hK2.2.2, hK3.2.2, hK4.2.2, hK5.2.2, hK6.2.2, hK7.2.2, hK9.2.2, hK11.2.2, hK13.2.2, hK15.2.2, hK17.2.2, hK18.2.2, hK19.2.2, hi]
