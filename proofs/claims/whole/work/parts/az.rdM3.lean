/-! the reference reads a sheet -/
theorem rdM_L {f : Nat → Int} {Z : Nat} {E : Ev} {M K : Mm} {k : Tk} {i : Nat} {v : Int} (h : rdM f Z E M K k) : rdM f Z E M (en_wL K 117 i v) k := h
theorem rdM_sh {f : Nat → Int} {Z : Nat} {E : Ev} {M K : Mm} {k : Tk} {t p : Nat} {g : Nat → Int} (h : rdM f Z E M K k) (hp : p < 4) : rdM f Z (u_sh E g t p) M (en_wI (pr K (84 + 24 + 1 + 1 * p) g t) 113 p ((t : Nat) : Int)) k := by
  obtain ⟨h1, h2, h3, h4, h5⟩ := h
  have e : ∀ a, a < 109 → (en_wI (pr K (84 + 24 + 1 + 1 * p) g t) 113 p ((t : Nat) : Int)).1 a = K.1 a := fun a ha => by rw [wI_ne (by omega), pr_ne (by omega)]
  exact ⟨⟨by rw [e 99 (by decide)]; exact h1.1, h1.2⟩, by rw [e 84 (by decide)]; exact h2, h3, ⟨by rw [e 84 (by decide)]; exact h4.1, by rw [e 84 (by decide)]; exact h4.2.1, by rw [e 84 (by decide)]; exact h4.2.2.1, by rw [e 84 (by decide)]; exact h4.2.2.2⟩, isM_sh h5 hp⟩
theorem frM_sh {M K : Mm} {t p : Nat} {g : Nat → Int} (h : frM M K) (hp : p < 4) : frM M (en_wI (pr K (84 + 24 + 1 + 1 * p) g t) 113 p ((t : Nat) : Int)) := ⟨fun a ha => by rw [wI_ne (by omega), pr_ne (by omega)]; exact h.1 a ha, fun i hi => by rw [wI_ne (by omega), pr_ne (by omega)]; exact h.2.1 i hi, h.2.2⟩
theorem L_shC {post : Option AV → Mm → Prop} (M : Mm) (p t : Nat) (hp : p < 4) (ht : t ≤ 5) (hx : post (some (.inl 1)) (en_wI (pr M (84 + 24 + 1 + 1 * p) (M.2 117) t) 113 p ((t : Nat) : Int))) : ∀ (n : Nat) (i : Nat), (i + n = t) → en_AW 6 0 182 post 79 [some (.inr (.inr (1, 6, 84))), some (.inl ((p : Nat) : Int)), some (.inl ((t : Nat) : Int)), some (.inl ((i : Nat) : Int))] [] (pr M (84 + 24 + 1 + 1 * p) (M.2 117) i) 0 := by
  intro n
  induction n with
  | zero =>
    intro i hi
    refine aw_182_79 ?_
    refine br_ge_y (a := ((i : Nat) : Int)) (b := ((t : Nat) : Int)) (by omega) (by omega) (by omega) ?_
    refine aw_182_105 ?_
    refine ⟨p, rfl, (show p < 4 by omega), ?_⟩
    rw [show t = i by omega] at hx ⊢
    exact ⟨Or.inr rfl, hx⟩
  | succ n ih =>
    intro i hi
    refine aw_182_79 ?_
    refine br_ge_n (a := ((i : Nat) : Int)) (b := ((t : Nat) : Int)) (by omega) (by omega) (by omega) ?_
    refine ⟨p, rfl, (show p < 4 by omega), ?_⟩
    refine ⟨i, rfl, (show i < 6 by omega), ?_⟩
    refine ⟨i, rfl, (show i < 5 by omega), ?_⟩
    refine en_AW_M (show en_wI (pr M (84 + 24 + 1 + 1 * p) (M.2 117) i) (109 + 1 * p) i ((pr M (84 + 24 + 1 + 1 * p) (M.2 117) i).2 117 i) = pr M (84 + 24 + 1 + 1 * p) (M.2 117) (i + 1) from pr_step rfl) ?_
    exact ih (i + 1) (by omega)
theorem L_shM {post : Option AV → Mm → Prop} (f : Nat → Int) (Z : Nat) (E : Ev) (hg : s_ok E) (M : Mm) (p : Nat) (hp : (p : Int) < E.1 0 2) (T : Rs) (hx : ∀ (K : Mm) (r : Option AV), outM f Z M K T r → post r K) : ∀ (n : Nat) (t : Nat) (K : Mm) (k : Tk) (g : Nat → Int), (t + n = 5) → (rdM f Z E M K k) → (frM M K) → (∀ i, i < t → K.2 117 i = g i) → (∀ i, i < t → s_mf E p g i) → (shR f Z E p n t g k = T) → en_AW 6 0 182 post 25 [some (.inr (.inr (1, 6, 84))), some (.inl ((p : Nat) : Int)), some (.inl ((t : Nat) : Int)), none] [] K 0 := by
  intro n
  induction n with
  | zero =>
    intro t K k g ht h hF hgK hok hT
    obtain ⟨n0, n1, n2, -⟩ := hg.1
    obtain ⟨h1, h2, h3, h4, h5⟩ := id h
    have k27 : K.1 84 27 = k.2.1 := h4.2.1
    have k28 := h4.1
    have kb := h3.2.1
    refine aw_182_25 ?_
    refine br_ne (a := K.1 84 27) (b := 2) (by omega) (by omega) (fun q1 => ?_) (fun q1 => ?_)
    · refine aw_182_77 ?_
      refine en_AW_M (pr_0 (M := K) (a := 84 + 24 + 1 + 1 * p) (f := K.2 117)).symm ?_
      refine L_shC K p t (by omega) (by omega) (hx _ _ (outM_so (X := u_sh E g t p) (k := k) (B := M) (by rw [← hT, shR, if_neg (by omega)]) (frM_sh hF (by omega)) ?_)) t 0 (by omega)
      rw [← ush_c hgK]
      exact rdM_sh h (by omega)
    · have e2 : k.2.1 = 2 := by omega
      have k29 : K.1 84 29 = vl f k := by rw [h4.2.2.2, if_pos e2]
      have vb := vl_b h3.1.1 h3.2.2.1 e2
      have hv : en_wr (K.1 84 29) = vl f k := by rw [k29]; exact en_wr_of ⟨by omega, by omega⟩
      refine ⟨t, rfl, (show t < 6 by omega), ?_⟩
      refine br_eq_y (a := ((t : Nat) : Int)) (b := 5) (by omega) (by omega) (by omega) ?_
      refine aw_182_62 ?_
      refine ⟨1, 0, by first | decide | omega, by first | decide | omega, en_Ct_eq (R_wrong (en_wL K 117 t (en_wr (K.1 84 29)))) ?_⟩
      exact ⟨Or.inl rfl, hx _ _ (outM_no (k := k) (by rw [← hT, shR, if_pos e2]) (frM_s (frM_L hF) (by decide)) (by rw [w84_s]; exact k28))⟩
  | succ n ih =>
    intro t K k g ht h hF hgK hok hT
    obtain ⟨n0, n1, n2, -⟩ := hg.1
    obtain ⟨h1, h2, h3, h4, h5⟩ := id h
    have k27 : K.1 84 27 = k.2.1 := h4.2.1
    have k28 := h4.1
    have kb := h3.2.1
    refine aw_182_25 ?_
    refine br_ne (a := K.1 84 27) (b := 2) (by omega) (by omega) (fun q1 => ?_) (fun q1 => ?_)
    · refine aw_182_77 ?_
      refine en_AW_M (pr_0 (M := K) (a := 84 + 24 + 1 + 1 * p) (f := K.2 117)).symm ?_
      refine L_shC K p t (by omega) (by omega) (hx _ _ (outM_so (X := u_sh E g t p) (k := k) (B := M) (by rw [← hT, shR, if_neg (by omega)]) (frM_sh hF (by omega)) ?_)) t 0 (by omega)
      rw [← ush_c hgK]
      exact rdM_sh h (by omega)
    · have e2 : k.2.1 = 2 := by omega
      have k29 : K.1 84 29 = vl f k := by rw [h4.2.2.2, if_pos e2]
      have vb := vl_b h3.1.1 h3.2.2.1 e2
      have hv : en_wr (K.1 84 29) = vl f k := by rw [k29]; exact en_wr_of ⟨by omega, by omega⟩
      refine ⟨t, rfl, (show t < 6 by omega), ?_⟩
      refine br_eq_n (a := ((t : Nat) : Int)) (b := 5) (by omega) (by omega) (by omega) ?_
      have hG1 : ∀ i, i < t → (en_wL K 117 t (en_wr (K.1 84 29))).2 117 i = g i := fun i hi => by rw [wL_n (by omega)]; exact hgK i hi
      have hG2 : (en_wL K 117 t (en_wr (K.1 84 29))).2 117 t = vl f k := by rw [wL_s]; exact hv
      have hmf := mf_ev (X := E) (E := E) (p := p) (n := t) (g := upf g t (vl f k)) (g' := (en_wL K 117 t (en_wr (K.1 84 29))).2 117) evs_rfl hg (fun i hi => by
        by_cases z : i = t
        · rw [z, upf_s]; exact hG2.symm
        · rw [upf_n z]; exact (hG1 i (by omega)).symm) (fun i hi => (mf_up hi).mpr (hok i hi))
      by_cases y : s_mf E p ((en_wL K 117 t (en_wr (K.1 84 29))).2 117) t
      · refine ⟨3, 0, by first | decide | omega, by first | decide | omega, en_Ct_t (R_mf E (en_wL K 117 t (en_wr (K.1 84 29))) (isM_fr h5 (fun _ _ => rfl) (fun _ _ _ => rfl)) hg p (by omega) 117 6 t (by omega) (by decide) (by rw [hG2]; omega) (fun i hi => by rw [hG1 i hi]; exact (hok i hi).1)) y ?_⟩
        refine br_ne_y (by decide) (by decide) (by decide) ?_
        refine aw_182_67 ?_
        refine ⟨3, 0, by first | decide | omega, by first | decide | omega, en_Ct_mono (D_look (rdM_L h)) ?_⟩
        rintro _ K2 ⟨rfl, hK2, hF2⟩
        exact ih (t + 1) K2 (tok f Z k.2.2) (upf g t (vl f k)) (by omega) hK2 (frM_tr (frM_L hF) (frM_8 hF2)) (fun i hi => by
          rw [hF2.1]
          by_cases z : i = t
          · rw [z, upf_s]; exact hG2
          · rw [upf_n z]; exact hG1 i (by omega)) (fun i hi => by
          by_cases z : i = t
          · rw [z]; exact hmf.mpr y
          · exact (mf_up (by omega)).mpr (hok i (by omega))) (by rw [shR, if_pos e2, if_pos (hmf.mpr y)] at hT; exact hT)
      · refine ⟨3, 0, by first | decide | omega, by first | decide | omega, en_Ct_f (R_mf E (en_wL K 117 t (en_wr (K.1 84 29))) (isM_fr h5 (fun _ _ => rfl) (fun _ _ _ => rfl)) hg p (by omega) 117 6 t (by omega) (by decide) (by rw [hG2]; omega) (fun i hi => by rw [hG1 i hi]; exact (hok i hi).1)) y ?_⟩
        refine br_ne_n (by decide) (by decide) (by decide) ?_
        refine aw_182_62 ?_
        refine ⟨1, 0, by first | decide | omega, by first | decide | omega, en_Ct_eq (R_wrong (en_wL K 117 t (en_wr (K.1 84 29)))) ?_⟩
        exact ⟨Or.inl rfl, hx _ _ (outM_no (k := k) (by rw [← hT, shR, if_pos e2, if_neg (fun z => y (hmf.mp z))]) (frM_s (frM_L hF) (by decide)) (by rw [w84_s]; exact k28))⟩
theorem D_she (f : Nat → Int) (Z : Nat) (E : Ev) (hg : s_ok E) (M : Mm) (k : Tk) (h : rdM f Z E M M k) : en_Ct 6 0 182 [.inr (.inr (1, 6, 84))] M (fun r M' => outM f Z M M' (sShe f Z E (fun _ => 0) (tok f Z k.2.2)) r) := by
  obtain ⟨n0, n1, n2, -⟩ := hg.1
  have r0 : M.1 84 9 = E.1 0 0 := h.2.2.2.2.1.1
  have r1 : M.1 84 10 = E.1 0 1 := h.2.2.2.2.1.2.1
  have r2 : M.1 84 18 = E.1 0 2 := h.2.2.2.2.1.2.2.1
  refine ct_182 rfl ?_
  refine aw_182_0 ?_
  by_cases c : numO f (tok f Z k.2.2) 0 (E.1 0 2 - 1)
  · refine ⟨5, 0, by first | decide | omega, by first | decide | omega, en_Ct_mono (D_telT f Z E M M k h 0 ((M.1 84 18) - 1) (by omega) (by omega) (by rw [r2]; exact c)) ?_⟩
    rintro _ K1 ⟨rfl, hK1, hF1, v0⟩
    refine br_ne_y (by decide) (by decide) (by decide) ?_
    refine aw_182_16 ?_
    refine ⟨0, rfl, (show 0 < 5 by omega), ?_⟩
    obtain ⟨-, b1, b2⟩ := id c
    obtain ⟨p, hpv⟩ := Int.eq_ofNat_of_zero_le (show 0 ≤ vl f (tok f Z k.2.2) by omega)
    refine en_AW_ls (congrArg (fun z_ : Int => ([some (.inr (.inr (1, 6, 84))), some (.inl z_), some (.inl 0), none] : AL)) (show K1.1 116 0 = ((p : Nat) : Int) from v0.trans hpv)) ?_
    refine L_shM f Z E hg M p (by omega) (sShe f Z E (fun _ => 0) (tok f Z k.2.2)) (fun K' r hr => hr) 5 0 K1 (tok f Z (tok f Z k.2.2).2.2) (fun _ => 0) rfl hK1 (frM_H hF1) (fun i hi => absurd hi (Nat.not_lt_zero i)) (fun i hi => absurd hi (Nat.not_lt_zero i)) ?_
    unfold sShe
    rw [rn_t c, hpv]
    rfl
  · refine ⟨5, 0, by first | decide | omega, by first | decide | omega, en_Ct_mono (D_telF f Z E M M k h 0 ((M.1 84 18) - 1) (by omega) (by omega) (by rw [r2]; exact c)) ?_⟩
    rintro _ K1 ⟨rfl, hF1, v0⟩
    refine br_ne_n (by decide) (by decide) (by decide) ?_
    exact ⟨Or.inl rfl, outM_no (k := tok f Z k.2.2) (by unfold sShe; exact rn_f c) (frM_H hF1) v0⟩
