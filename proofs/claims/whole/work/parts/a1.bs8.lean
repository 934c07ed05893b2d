theorem R_find (e : Nat) (E : Ev) (M : Mm) (hE : isE M e E) (hg : s_ok E) (he : e + 16 ≤ 49) (p : Nat) (hp : p < 4) : en_Ct 9 0 1 [.inr (.inr (1, 0, 52)), .inr (.inr (1, 1, e)), .inl ((p : Nat) : Int)] M (fun r M' => r = none ∧ fr 52 61 M M' ∧ isS M' (bst E p) ∧ sB (bst E p) ∧ isLn M' E (lin E p)) := by
  obtain ⟨n0, n1, n2, a0, a1, a2, a3, a4, a5, a6, a7⟩ := hg.1
  have r1 : M.1 (e + 1) = E.1 1 := hE.1 1 (by decide)
  have hne : ¬ e + 1 = 52 := by omega
  refine ct_1 rfl ?_
  refine aw_1_0 ?_
  refine ⟨1, rfl, (show 1 < 8 by omega), ?_⟩
  refine ⟨3, rfl, (show 3 < 8 by omega), ?_⟩
  refine ⟨4, rfl, (show 4 < 8 by omega), ?_⟩
  refine ⟨5, rfl, (show 5 < 8 by omega), ?_⟩
  have hI1 : isE (en_wI (en_wI (en_wI (en_wI M 52 3 (M.1 (e + 1) 1)) 52 5 ((en_wI M 52 3 (M.1 (e + 1) 1)).1 (e + 1) 3)) 52 6 ((en_wI (en_wI M 52 3 (M.1 (e + 1) 1)) 52 5 ((en_wI M 52 3 (M.1 (e + 1) 1)).1 (e + 1) 3)).1 (e + 1) 4)) 52 7 ((en_wI (en_wI (en_wI M 52 3 (M.1 (e + 1) 1)) 52 5 ((en_wI M 52 3 (M.1 (e + 1) 1)).1 (e + 1) 3)) 52 6 ((en_wI (en_wI M 52 3 (M.1 (e + 1) 1)) 52 5 ((en_wI M 52 3 (M.1 (e + 1) 1)).1 (e + 1) 3)).1 (e + 1) 4)).1 (e + 1) 5)) e E := isE_fr hE (fun a h0 h1 => by rw [wI_ne (by omega), wI_ne (by omega), wI_ne (by omega), wI_ne (by omega)])
  have f3 : (en_wI (en_wI (en_wI (en_wI M 52 3 (M.1 (e + 1) 1)) 52 5 ((en_wI M 52 3 (M.1 (e + 1) 1)).1 (e + 1) 3)) 52 6 ((en_wI (en_wI M 52 3 (M.1 (e + 1) 1)) 52 5 ((en_wI M 52 3 (M.1 (e + 1) 1)).1 (e + 1) 3)).1 (e + 1) 4)) 52 7 ((en_wI (en_wI (en_wI M 52 3 (M.1 (e + 1) 1)) 52 5 ((en_wI M 52 3 (M.1 (e + 1) 1)).1 (e + 1) 3)) 52 6 ((en_wI (en_wI M 52 3 (M.1 (e + 1) 1)) 52 5 ((en_wI M 52 3 (M.1 (e + 1) 1)).1 (e + 1) 3)).1 (e + 1) 4)).1 (e + 1) 5)).1 52 3 = E.1 1 1 := by simp [en_wI, r1]
  have f5 : (en_wI (en_wI (en_wI (en_wI M 52 3 (M.1 (e + 1) 1)) 52 5 ((en_wI M 52 3 (M.1 (e + 1) 1)).1 (e + 1) 3)) 52 6 ((en_wI (en_wI M 52 3 (M.1 (e + 1) 1)) 52 5 ((en_wI M 52 3 (M.1 (e + 1) 1)).1 (e + 1) 3)).1 (e + 1) 4)) 52 7 ((en_wI (en_wI (en_wI M 52 3 (M.1 (e + 1) 1)) 52 5 ((en_wI M 52 3 (M.1 (e + 1) 1)).1 (e + 1) 3)) 52 6 ((en_wI (en_wI M 52 3 (M.1 (e + 1) 1)) 52 5 ((en_wI M 52 3 (M.1 (e + 1) 1)).1 (e + 1) 3)).1 (e + 1) 4)).1 (e + 1) 5)).1 52 5 = E.1 1 3 := by simp [en_wI, r1, hne]
  have f6 : (en_wI (en_wI (en_wI (en_wI M 52 3 (M.1 (e + 1) 1)) 52 5 ((en_wI M 52 3 (M.1 (e + 1) 1)).1 (e + 1) 3)) 52 6 ((en_wI (en_wI M 52 3 (M.1 (e + 1) 1)) 52 5 ((en_wI M 52 3 (M.1 (e + 1) 1)).1 (e + 1) 3)).1 (e + 1) 4)) 52 7 ((en_wI (en_wI (en_wI M 52 3 (M.1 (e + 1) 1)) 52 5 ((en_wI M 52 3 (M.1 (e + 1) 1)).1 (e + 1) 3)) 52 6 ((en_wI (en_wI M 52 3 (M.1 (e + 1) 1)) 52 5 ((en_wI M 52 3 (M.1 (e + 1) 1)).1 (e + 1) 3)).1 (e + 1) 4)).1 (e + 1) 5)).1 52 6 = E.1 1 4 := by simp [en_wI, r1, hne]
  have f7 : (en_wI (en_wI (en_wI (en_wI M 52 3 (M.1 (e + 1) 1)) 52 5 ((en_wI M 52 3 (M.1 (e + 1) 1)).1 (e + 1) 3)) 52 6 ((en_wI (en_wI M 52 3 (M.1 (e + 1) 1)) 52 5 ((en_wI M 52 3 (M.1 (e + 1) 1)).1 (e + 1) 3)).1 (e + 1) 4)) 52 7 ((en_wI (en_wI (en_wI M 52 3 (M.1 (e + 1) 1)) 52 5 ((en_wI M 52 3 (M.1 (e + 1) 1)).1 (e + 1) 3)) 52 6 ((en_wI (en_wI M 52 3 (M.1 (e + 1) 1)) 52 5 ((en_wI M 52 3 (M.1 (e + 1) 1)).1 (e + 1) 3)).1 (e + 1) 4)).1 (e + 1) 5)).1 52 7 = E.1 1 5 := by simp [en_wI, r1, hne]
  have hF0 : fr 52 61 M (en_wI (en_wI (en_wI (en_wI M 52 3 (M.1 (e + 1) 1)) 52 5 ((en_wI M 52 3 (M.1 (e + 1) 1)).1 (e + 1) 3)) 52 6 ((en_wI (en_wI M 52 3 (M.1 (e + 1) 1)) 52 5 ((en_wI M 52 3 (M.1 (e + 1) 1)).1 (e + 1) 3)).1 (e + 1) 4)) 52 7 ((en_wI (en_wI (en_wI M 52 3 (M.1 (e + 1) 1)) 52 5 ((en_wI M 52 3 (M.1 (e + 1) 1)).1 (e + 1) 3)) 52 6 ((en_wI (en_wI M 52 3 (M.1 (e + 1) 1)) 52 5 ((en_wI M 52 3 (M.1 (e + 1) 1)).1 (e + 1) 3)).1 (e + 1) 4)).1 (e + 1) 5)) := fr_w (fr_w (fr_w (fr_w fr_rfl (by decide) (by decide)) (by decide) (by decide)) (by decide) (by decide)) (by decide) (by decide)
  refine ⟨4, 0, by first | decide | omega, by first | decide | omega, en_Ct_mono (R_lineUp e E (en_wI (en_wI (en_wI (en_wI M 52 3 (M.1 (e + 1) 1)) 52 5 ((en_wI M 52 3 (M.1 (e + 1) 1)).1 (e + 1) 3)) 52 6 ((en_wI (en_wI M 52 3 (M.1 (e + 1) 1)) 52 5 ((en_wI M 52 3 (M.1 (e + 1) 1)).1 (e + 1) 3)).1 (e + 1) 4)) 52 7 ((en_wI (en_wI (en_wI M 52 3 (M.1 (e + 1) 1)) 52 5 ((en_wI M 52 3 (M.1 (e + 1) 1)).1 (e + 1) 3)) 52 6 ((en_wI (en_wI M 52 3 (M.1 (e + 1) 1)) 52 5 ((en_wI M 52 3 (M.1 (e + 1) 1)).1 (e + 1) 3)).1 (e + 1) 4)).1 (e + 1) 5)) hI1 hg he p hp) ?_⟩
  rintro _ K1 ⟨rfl, hF1, hLn1, hC1⟩
  have hIK1 : isE K1 e E := isE_o hI1 hF1.1 (Or.inl (by omega))
  refine ⟨4, 0, by first | decide | omega, by first | decide | omega, en_Ct_mono (R_wo e E K1 hIK1 hg he p hp) ?_⟩
  rintro _ K2 ⟨rfl, hF2, h42, hO2⟩
  have e3 : ∀ i, 3 ≤ i → (en_wI (en_wI (en_wI K2 52 0 0) 52 1 0) 52 2 ((en_wI (en_wI K2 52 0 0) 52 1 0).1 52 4)).1 52 i = K2.1 52 i := fun i hi => by
    have z0 : ¬ i = 0 := by omega
    have z1 : ¬ i = 1 := by omega
    have z2 : ¬ i = 2 := by omega
    simp [en_wI, z0, z1, z2]
  have hB3 : isBS (en_wI (en_wI (en_wI K2 52 0 0) 52 1 0) 52 2 ((en_wI (en_wI K2 52 0 0) 52 1 0).1 52 4)) E p := by
    refine isBS_fr (M := K2) ?_ (fun a h1 h2 => by rw [wI_ne h1, wI_ne h1, wI_ne h1]) e3
    refine ⟨⟨?_, h42, ?_, ?_, ?_⟩, isLn_fr hLn1 (hF2.2.1 8 (by decide) (by decide)) (hF2.1 53 (by decide) (by decide) (by decide) (by decide)) (hF2.1 54 (by decide) (by decide) (by decide) (by decide)), ?_, hO2⟩
    · rw [hF2.2.1 3 (by decide) (by decide), hF1.2 3 (by decide)]; exact f3
    · rw [hF2.2.1 5 (by decide) (by decide), hF1.2 5 (by decide)]; exact f5
    · rw [hF2.2.1 6 (by decide) (by decide), hF1.2 6 (by decide)]; exact f6
    · rw [hF2.2.1 7 (by decide) (by decide), hF1.2 7 (by decide)]; exact f7
    · unfold isCc
      rw [hF2.1 55 (by decide) (by decide) (by decide) (by decide), hF2.1 56 (by decide) (by decide) (by decide) (by decide)]
      exact hC1
  have hS3 : isS (en_wI (en_wI (en_wI K2 52 0 0) 52 1 0) 52 2 ((en_wI (en_wI K2 52 0 0) 52 1 0).1 52 4)) (0, 0, lim E p) := ⟨by simp [en_wI], by simp [en_wI], by simp [en_wI, h42]⟩
  have hs3 : sB (0, 0, lim E p) := ⟨⟨Int.le_refl _, (show (0 : Int) ≤ 250 by decide)⟩, (show (0 : Nat) < 2 ^ 24 by decide)⟩
  refine ⟨(E.1 1 1).toNat + 3, 0, by first | decide | omega, by first | decide | omega, en_Ct_mono (show en_Ct ((E.1 1 1).toNat + 3) 0 5 [.inr (.inr (1, 0, 52)), .inl 0, .inl 0, .inl 0, .inl 0, .inl 0] (en_wI (en_wI (en_wI K2 52 0 0) 52 1 0) 52 2 ((en_wI (en_wI K2 52 0 0) 52 1 0).1 52 4)) _ from R_ext E p hg (E.1 1 1).toNat (en_wI (en_wI (en_wI K2 52 0 0) 52 1 0) 52 2 ((en_wI (en_wI K2 52 0 0) 52 1 0).1 52 4)) 0 0 [] (0, 0, lim E p) hB3 (fun k hk => absurd hk (Nat.not_lt_zero k)) (fun w hw => absurd hw List.not_mem_nil) (by simp) (Nat.zero_le _) (by simp) hS3 hs3) ?_⟩
  rintro _ K4 ⟨rfl, hF4, hS4, hs4⟩
  refine ⟨rfl, ⟨?_, fun a ha => ?_⟩, ?_, hs4, ?_⟩
  · rw [hF4.2.2.2]
    show K2.2 = M.2
    rw [hF2.2.2, hF1.1.1]
    rfl
  · rw [hF4.1 a (by omega) (by omega), wI_ne (by omega), wI_ne (by omega), wI_ne (by omega), hF2.1 a (by omega) (by omega) (by omega) (by omega), hF1.1.2 a ha]
    exact hF0.2 a ha
  · rw [List.drop_zero] at hS4
    exact hS4
  · exact (isBS_C hB3 hF4).2.1
theorem lf_len {E : Ev} (hg : s_ok E) {p : Nat} {l : List Nat} (h : vld E p l) : l.length ≤ 5 := vld_len hg h
theorem fil_at {f : Nat → Bool} {l : List Nat} {i : Nat} (hi : i < l.length) (hw : f (l.getD i 0) = true) : (l.filter f).getD ((l.take i).filter f).length 0 = l.getD i 0 ∧ ((l.take i).filter f).length < (l.filter f).length ∧ ((l.take (i + 1)).filter f).length = ((l.take i).filter f).length + 1 := by
  have e1 : l = l.take i ++ l.getD i 0 :: l.drop (i + 1) := by rw [← drop_c hi, List.take_append_drop]
  have e2 : l.filter f = (l.take i).filter f ++ l.getD i 0 :: (l.drop (i + 1)).filter f := by
    have e3 : (l.take i ++ l.getD i 0 :: l.drop (i + 1)).filter f = (l.take i).filter f ++ l.getD i 0 :: (l.drop (i + 1)).filter f := by rw [List.filter_append, List.filter_cons_of_pos hw]
    rw [← e1] at e3
    exact e3
  refine ⟨?_, ?_, ?_⟩
  · rw [e2, List.getD_eq_getElem?_getD, List.getElem?_append_right (Nat.le_refl _), Nat.sub_self]
    rfl
  · rw [e2, List.length_append, List.length_cons]
    omega
  · rw [tk_n l i hi, List.filter_append, List.length_append, List.filter_cons_of_pos hw]
    rfl
theorem fil_no {f : Nat → Bool} {l : List Nat} {i : Nat} (hi : i < l.length) (hw : ¬ f (l.getD i 0) = true) : ((l.take (i + 1)).filter f).length = ((l.take i).filter f).length := by
  rw [tk_n l i hi, List.filter_append, List.length_append, List.filter_cons_of_neg hw]
  rfl
theorem fil_le {f : Nat → Bool} {l : List Nat} {i : Nat} : ((l.take i).filter f).length ≤ (l.filter f).length := by
  have : List.Sublist ((l.take i).filter f) (l.filter f) := (List.take_sublist i l).filter f
  exact this.length_le
theorem L_wt {post : Option AV → Mm → Prop} (E : Ev) (M : Mm) (hg : s_ok E) (p : Nat) (hp : p < 4) (hLn : isLn M E (lin E p)) (S : Nat) (hS24 : S < 2 ^ 24) (hS1 : M.1 52 1 = ((S : Nat) : Int)) (hl5 : (lf E p S).length ≤ 5) (hx : post none (en_wI (pr M (11 + 1 * p) (fun i => (((lf E p S).getD i 0 : Nat) : Int)) (lf E p S).length) 15 p (((lf E p S).length : Nat) : Int))) : ∀ (n : Nat) (i : Nat), (i + n = (lin E p).length) → en_AW 1 0 8 post 5 [some (.inr (.inr (1, 0, 52))), some (.inr (.inr (1, 1, 1))), some (.inl ((p : Nat) : Int)), some (.inl (((((lin E p).take i).filter (fun w => S.testBit w)).length : Nat) : Int)), some (.inl ((i : Nat) : Int))] [] (pr M (11 + 1 * p) (fun i => (((lf E p S).getD i 0 : Nat) : Int)) ((((lin E p).take i).filter (fun w => S.testBit w)).length)) 0 := by
  intro n
  induction n with
  | zero =>
    intro i hi
    have h8 := hLn.1
    have ll : (lin E p).length ≤ 24 := Nat.le_trans (lnp_len _) (by have := hg.1.2.1; omega)
    have hcl : ((((lin E p).take i).filter (fun w => S.testBit w)).length) ≤ (lf E p S).length := fil_le
    have k52 : (pr M (11 + 1 * p) (fun i => (((lf E p S).getD i 0 : Nat) : Int)) ((((lin E p).take i).filter (fun w => S.testBit w)).length)).1 52 = M.1 52 := pr_ne (by omega)
    have k8 : (pr M (11 + 1 * p) (fun i => (((lf E p S).getD i 0 : Nat) : Int)) ((((lin E p).take i).filter (fun w => S.testBit w)).length)).1 52 8 = (((lin E p).length : Nat) : Int) := by rw [k52]; exact h8
    have kb : (pr M (11 + 1 * p) (fun i => (((lf E p S).getD i 0 : Nat) : Int)) ((((lin E p).take i).filter (fun w => S.testBit w)).length)).1 52 1 = ((S : Nat) : Int) := by rw [k52]; exact hS1
    refine aw_8_5 ?_
    refine br_ge_y (a := ((i : Nat) : Int)) (b := (pr M (11 + 1 * p) (fun i => (((lf E p S).getD i 0 : Nat) : Int)) ((((lin E p).take i).filter (fun w => S.testBit w)).length)).1 52 8) (by omega) (by omega) (by omega) ?_
    refine aw_8_61 ?_
    refine ⟨p, rfl, (show p < 4 by omega), ?_⟩
    have e : ((((lin E p).take i).filter (fun w => S.testBit w)).length) = (lf E p S).length := by
      have hle : ((((lin E p).take i).filter (fun w => S.testBit w)).length) ≤ (lf E p S).length := fil_le
      first
      | omega
      | (rw [List.take_of_length_le (by omega)]; rfl)
    rw [e]
    exact hx
  | succ n ih =>
    intro i hi
    have h8 := hLn.1
    have ll : (lin E p).length ≤ 24 := Nat.le_trans (lnp_len _) (by have := hg.1.2.1; omega)
    have hcl : ((((lin E p).take i).filter (fun w => S.testBit w)).length) ≤ (lf E p S).length := fil_le
    have k52 : (pr M (11 + 1 * p) (fun i => (((lf E p S).getD i 0 : Nat) : Int)) ((((lin E p).take i).filter (fun w => S.testBit w)).length)).1 52 = M.1 52 := pr_ne (by omega)
    have k8 : (pr M (11 + 1 * p) (fun i => (((lf E p S).getD i 0 : Nat) : Int)) ((((lin E p).take i).filter (fun w => S.testBit w)).length)).1 52 8 = (((lin E p).length : Nat) : Int) := by rw [k52]; exact h8
    have kb : (pr M (11 + 1 * p) (fun i => (((lf E p S).getD i 0 : Nat) : Int)) ((((lin E p).take i).filter (fun w => S.testBit w)).length)).1 52 1 = ((S : Nat) : Int) := by rw [k52]; exact hS1
    have k53 : (pr M (11 + 1 * p) (fun i => (((lf E p S).getD i 0 : Nat) : Int)) ((((lin E p).take i).filter (fun w => S.testBit w)).length)).1 53 i = (((lin E p).getD i 0 : Nat) : Int) := by rw [pr_ne (by omega)]; exact (hLn.2 i (by omega)).1
    have hm := lin_mem.mp (getD_mem (l := lin E p) (i := i) (by omega))
    have n1 := hg.1.2.1
    have hbit : en_and (en_shr ((pr M (11 + 1 * p) (fun i => (((lf E p S).getD i 0 : Nat) : Int)) ((((lin E p).take i).filter (fun w => S.testBit w)).length)).1 52 1) ((pr M (11 + 1 * p) (fun i => (((lf E p S).getD i 0 : Nat) : Int)) ((((lin E p).take i).filter (fun w => S.testBit w)).length)).1 53 i)) 1 = if S.testBit ((lin E p).getD i 0) = true then 1 else 0 := by
      rw [kb, k53]
      exact nu_bit (by omega) (by omega)
    have hb01 := nu_and1 (en_shr ((pr M (11 + 1 * p) (fun i => (((lf E p S).getD i 0 : Nat) : Int)) ((((lin E p).take i).filter (fun w => S.testBit w)).length)).1 52 1) ((pr M (11 + 1 * p) (fun i => (((lf E p S).getD i 0 : Nat) : Int)) ((((lin E p).take i).filter (fun w => S.testBit w)).length)).1 53 i))
    refine aw_8_5 ?_
    refine br_ge_n (a := ((i : Nat) : Int)) (b := (pr M (11 + 1 * p) (fun i => (((lf E p S).getD i 0 : Nat) : Int)) ((((lin E p).take i).filter (fun w => S.testBit w)).length)).1 52 8) (by omega) (by omega) (by omega) ?_
    refine br_ge (a := (((((lin E p).take i).filter (fun w => S.testBit w)).length : Nat) : Int)) (b := 5) (by omega) (by omega) (fun q2 => ?_) (fun q2 => ?_)
    · refine aw_8_61 ?_
      refine ⟨p, rfl, (show p < 4 by omega), ?_⟩
      have e : ((((lin E p).take i).filter (fun w => S.testBit w)).length) = (lf E p S).length := by
        have hle : ((((lin E p).take i).filter (fun w => S.testBit w)).length) ≤ (lf E p S).length := fil_le
        first
        | omega
        | (rw [List.take_of_length_le (by omega)]; rfl)
      rw [e]
      exact hx
    · refine ⟨i, rfl, (show i < 24 by omega), ?_⟩
      refine br_ne (a := en_and (en_shr ((pr M (11 + 1 * p) (fun i => (((lf E p S).getD i 0 : Nat) : Int)) ((((lin E p).take i).filter (fun w => S.testBit w)).length)).1 52 1) ((pr M (11 + 1 * p) (fun i => (((lf E p S).getD i 0 : Nat) : Int)) ((((lin E p).take i).filter (fun w => S.testBit w)).length)).1 53 i)) 1) (b := 1) (by omega) (by omega) (fun q3 => ?_) (fun q3 => ?_)
      · refine aw_8_55 ?_
        have hb : ¬ S.testBit ((lin E p).getD i 0) = true := fun z => by
          rw [if_pos z] at hbit
          omega
        have y3 := fil_no (f := fun w => S.testBit w) (l := lin E p) (i := i) (by omega) hb
        have z := ih (i + 1) (by omega)
        rw [y3] at z
        exact z
      · refine ⟨p, rfl, (show p < 4 by omega), ?_⟩
        refine ⟨i, rfl, (show i < 24 by omega), ?_⟩
        refine ⟨(((lin E p).take i).filter (fun w => S.testBit w)).length, rfl, (show (((lin E p).take i).filter (fun w => S.testBit w)).length < 5 by omega), ?_⟩
        refine aw_8_55 ?_
        have hb : S.testBit ((lin E p).getD i 0) = true := by
          by_cases z : S.testBit ((lin E p).getD i 0) = true
          · exact z
          · rw [if_neg z] at hbit; omega
        obtain ⟨y1, y2, y3⟩ := fil_at (f := fun w => S.testBit w) (l := lin E p) (i := i) (by omega) hb
        refine en_AW_M (show _ = pr M (11 + 1 * p) (fun i => (((lf E p S).getD i 0 : Nat) : Int)) ((((lin E p).take (i + 1)).filter (fun w => S.testBit w)).length) from ?_) ?_
        · rw [y3]
          refine pr_step ?_
          show (pr M (11 + 1 * p) _ _).1 53 i = (((lf E p S).getD _ 0 : Nat) : Int)
          rw [k53]
          exact congrArg (fun z : Nat => (z : Int)) y1.symm
        refine en_AW_ls (congrArg (fun z_ : Int => ([some (.inr (.inr (1, 0, 52))), some (.inr (.inr (1, 1, 1))), some (.inl ((p : Nat) : Int)), some (.inl z_), some (.inl (((i : Nat) : Int) + 1))] : AL)) (show (((((lin E p).take i).filter (fun w => S.testBit w)).length : Nat) : Int) + 1 = (((((lin E p).take (i + 1)).filter (fun w => S.testBit w)).length : Nat) : Int) by rw [y3]; rfl)) ?_
        exact ih (i + 1) (by omega)
theorem R_wt (E : Ev) (M : Mm) (hI : isE M 1 E) (hg : s_ok E) (p : Nat) (hp : p < 4) (hLn : isLn M E (lin E p)) (S : Nat) (hS24 : S < 2 ^ 24) (hS1 : M.1 52 1 = ((S : Nat) : Int)) (hl5 : (lf E p S).length ≤ 5) : en_Ct 1 0 8 [.inr (.inr (1, 0, 52)), .inr (.inr (1, 1, 1)), .inl ((p : Nat) : Int)] M (fun r M' => r = none ∧ (∀ a, a < 1 ∨ 17 ≤ a → M'.1 a = M.1 a) ∧ M'.2 = M.2 ∧ isE M' 1 (shE E p (lf E p S))) := by
  refine ct_8 rfl ?_
  refine aw_8_0 ?_
  refine en_AW_M (pr_0 (M := M) (a := 11 + 1 * p) (f := (fun i => (((lf E p S).getD i 0 : Nat) : Int)))).symm ?_
  refine L_wt E M hg p hp hLn S hS24 hS1 hl5 ⟨rfl, fun a ha => ?_, rfl, isE_sh hI hp⟩ (lin E p).length 0 (Nat.zero_add _)
  rw [wI_ne (by omega), pr_ne (by omega)]
theorem bst_lf {E : Ev} (hg : s_ok E) {p : Nat} : vld E p (lf E p (bst E p).2.1) ∧ bts (lf E p (bst E p).2.1) = (bst E p).2.1 ∧ (bst E p).1 = val E p (lf E p (bst E p).2.1) ∧ (bst E p).2.2 = cl E p (lf E p (bst E p).2.1) := by
  obtain ⟨⟨l, hl, e⟩, -⟩ := bst_isB hg (p := p)
  have hs : List.Sublist l (lin E p) ∧ l.Pairwise (dcl E) := by
    rcases List.mem_cons.mp hl with z | z
    · subst z; exact ⟨List.nil_sublist _, List.Pairwise.nil⟩
    · obtain ⟨x, x1, x2⟩ := List.mem_map.mp z
      obtain ⟨a, a1, a2, a3, a4, a5, a6⟩ := exw_snd _ _ _ _ x List.Pairwise.nil x1
      rw [List.nil_append] at a1
      rw [← x2]
      exact ⟨by rw [a1]; exact a2, a6⟩
  have e1 : (bst E p).2.1 = bts l := by rw [e]
  have e2 : lf E p (bst E p).2.1 = l := by rw [e1]; exact sub_lf hs.1 lin_nd
  rw [e2]
  exact ⟨lin_vld hs.1 hs.2 hg, e1.symm, by rw [e], by rw [e]⟩
def u_best (E : Ev) (p : Nat) : Ev := shE E p (lf E p (bst E p).2.1)
theorem R_pbs (E : Ev) (M : Mm) (hI : isE M 1 E) (hg : s_ok E) (p : Nat) (hp : p < 4) : en_Ct 10 0 137 [.inr (.inr (1, 5, 0)), .inl ((p : Nat) : Int)] M (fun r M' => r = some (.inl (bst E p).1) ∧ xE M M' ∧ isE M' 1 (u_best E p)) := by
  refine ct_137 rfl ?_
  refine aw_137_0 ?_
  refine ⟨9, 0, by first | decide | omega, by first | decide | omega, en_Ct_mono (R_find 1 E M hI hg (by decide) p hp) ?_⟩
  rintro _ K1 ⟨rfl, hF1, hS1, hsB, hLn1⟩
  have hI1 : isE K1 1 E := isE_o hI hF1 (Or.inl (by decide))
  refine ⟨1, 0, by first | decide | omega, by first | decide | omega, en_Ct_mono (R_wt E K1 hI1 hg p hp hLn1 (bst E p).2.1 hsB.2 hS1.2.1 (vld_len hg (bst_lf hg).1)) ?_⟩
  rintro _ K2 ⟨rfl, hF2, hL2, hI2⟩
  have e0 : K2.1 52 0 = (bst E p).1 := by rw [hF2 52 (by decide)]; exact hS1.1
  refine ⟨congrArg (fun z => some (Sum.inl z)) (show K2.1 52 0 = _ from e0), ⟨fun a ha => ?_, ?_, fun a _ => by rw [hL2, hF1.1]⟩, hI2⟩
  · rw [hF2 a (by omega)]; exact hF1.2 a (by omega)
  · rw [hF2 61 (by decide), hF1.2 61 (by decide)]
