/-! learn -/
def kn1 (E : Ev) (p w : Nat) : Ev := upr E 7 w (en_or (E.1 7 w) (en_shl 1 ((p : Nat) : Int)))
theorem ok_kn {E : Ev} (hg : s_ok E) {p w : Nat} (hp : p < 4) (hw : (w : Int) < E.1 0 1) : s_ok (kn1 E p w) := by
  have hkw := (hg.2.1 w hw).2.2.2.2.2.1
  have hnb := (kf (a := E.1 7 w) (p := ((p : Nat) : Int)) hkw.1 hkw.2 (by omega) (by omega)).1
  unfold kn1
  refine ok_up hg (num_n hg.1 (by omega)) ?_ (by omega) (by decide) (by omega) (by omega)
  intro v hv
  rw [upr_n (by omega)] at hv
  have := hg.2.1 v hv
  unfold s_word at this ⊢
  rw [upr_n (q := 0) (by omega), upr_n (q := 2) (by omega), upr_n (q := 3) (by omega), upr_n (q := 4) (by omega), upr_n (q := 5) (by omega), upr_n (q := 6) (by omega), upr_n (q := 8) (by omega)]
  by_cases hwy : v = w
  · subst hwy
    rw [upr_s]
    exact ⟨this.1, this.2.1, this.2.2.1, this.2.2.2.1, this.2.2.2.2.1, hnb, this.2.2.2.2.2.2⟩
  · rw [upr_n (q := 7) (by omega)]
    exact this
theorem kb' : ∀ a : Fin 16, ∀ p : Fin 4, 0 ≤ en_and (en_shr (a.val : Int) (p.val : Int)) 1 ∧ en_and (en_shr (a.val : Int) (p.val : Int)) 1 ≤ 1 := by decide +kernel
theorem kb {a p : Int} (h0 : 0 ≤ a) (h1 : a < 16) (p0 : 0 ≤ p) (p1 : p < 4) : 0 ≤ en_and (en_shr a p) 1 ∧ en_and (en_shr a p) 1 ≤ 1 := by
  have h := kb' ⟨a.toNat, by omega⟩ ⟨p.toNat, by omega⟩
  simp only [] at h
  rw [show ((a.toNat : Nat) : Int) = a by omega, show ((p.toNat : Nat) : Int) = p by omega] at h
  exact h
theorem ev_kn1 {E F : Ev} (h : evs E F) {p w : Nat} (hw : w < 24) : evs (kn1 E p w) (kn1 F p w) := by
  unfold kn1
  rw [ev_r h 7 (by decide) (by decide) hw]
  exact ev_upr h (by decide) _
theorem bst_sB {E : Ev} (hg : s_ok E) {p : Nat} : sB (bst E p) := by
  have n1 := hg.1.2.1
  have n5 := hg.1.2.2.2.2.1
  have hl24 : ∀ w ∈ lin E p, w < 24 := fun w hw => by
    have := (lin_mem.mp hw).1
    omega
  have key : ∀ (X : List (List Nat × Int)) (s : Int × Nat × Int), (∀ x ∈ X, x.1.length ≤ 5 ∧ ∀ w ∈ x.1, w < 24) → sB s → sB (X.foldl (stp E p) s) := by
    intro X
    induction X with
    | nil => intro s _ hs; exact hs
    | cons x r ih =>
      intro s hx hs
      rw [List.foldl_cons]
      have h1 := hx x (List.mem_cons_self ..)
      exact ih _ (fun y hy => hx y (List.mem_cons_of_mem _ hy)) (sB_stp hg (p := p) (l := x.1) (t := x.2) hs h1.1 h1.2)
  unfold bst
  refine key _ _ (fun x hx => ?_) ⟨⟨Int.le_refl _, by show (0 : Int) ≤ 250; omega⟩, by show 0 < 2 ^ 24; omega⟩
  obtain ⟨a, a1, a2, a3, -⟩ := exw_snd _ _ _ _ x List.Pairwise.nil hx
  rw [List.nil_append] at a1
  rw [a1]
  exact ⟨by omega, fun w hw => hl24 w (a2.subset hw)⟩
def s_le (E : Ev) (p : Nat) : Nat → Int × Int
  | 0 => (-1, -1)
  | n + 1 => if E.1 3 n = E.1 1 0 ∧ s_kn E p n ≠ true then (if (s_le E p n).2 < (bst (kn1 E p n) p).1 then ((n : Int), (bst (kn1 E p n) p).1) else s_le E p n) else s_le E p n
theorem le_b {E : Ev} (hg : s_ok E) {p : Nat} (hp : p < 4) : ∀ n : Nat, (n : Int) ≤ E.1 0 1 → (-1 ≤ (s_le E p n).1 ∧ (s_le E p n).1 < (n : Int)) ∧ (-1 ≤ (s_le E p n).2 ∧ (s_le E p n).2 ≤ 250) ∧ ((s_le E p n).1 = -1 ↔ (s_le E p n).2 = -1)
  | 0, _ => by simp [s_le]
  | n + 1, hn => by
    have ih := le_b hg hp n (by omega)
    have hb := (bst_sB (ok_kn hg hp (w := n) (by omega)) (p := p)).1
    unfold s_le
    split
    · split
      · dsimp only
        omega
      · omega
    · omega
theorem ev_le {E F : Ev} (h : evs E F) (hg : s_ok E) {p : Nat} (hp : p < 4) : ∀ n : Nat, (n : Int) ≤ E.1 0 1 → s_le E p n = s_le F p n
  | 0, _ => rfl
  | n + 1, hn => by
    have h24 : n < 24 := by have := hg.1.2.1; omega
    have ek : s_kn E p n = s_kn F p n := by unfold s_kn; rw [ev_r h 7 (by decide) (by decide) h24]
    rw [s_le, s_le, ev_le h hg hp n (by omega), ev_r h 3 (by decide) (by decide) h24, h.2.1 0 (by decide), ek, ev_bst (ev_kn1 h h24) (ok_kn hg hp (by omega))]
theorem le_t {E : Ev} {p n : Nat} (h : E.1 3 n = E.1 1 0 ∧ s_kn E p n ≠ true) (h2 : (s_le E p n).2 < (bst (kn1 E p n) p).1) : s_le E p (n + 1) = ((n : Int), (bst (kn1 E p n) p).1) := by rw [s_le, if_pos h, if_pos h2]
theorem le_f {E : Ev} {p n : Nat} (h : E.1 3 n = E.1 1 0 ∧ s_kn E p n ≠ true → ¬ (s_le E p n).2 < (bst (kn1 E p n) p).1) : s_le E p (n + 1) = s_le E p n := by
  rw [s_le]
  by_cases h1 : E.1 3 n = E.1 1 0 ∧ s_kn E p n ≠ true
  · rw [if_pos h1, if_neg (h h1)]
  · rw [if_neg h1]
def vle (E : Ev) (p : Nat) (t : Int) : Int := if t = 0 then (s_le E p (E.1 0 1).toNat).1 else if (s_le E p (E.1 0 1).toNat).2 - (bst E p).1 < 0 then 0 else (s_le E p (E.1 0 1).toNat).2 - (bst E p).1
theorem X_kn {M : Mm} {E : Ev} (h : isE M 1 E) (hg : s_ok E) {p w : Nat} (hp : p < 4) (hw : (w : Int) < E.1 0 1) : en_Ct 1 0 19 [.inr (.inr (1, 1, 1)), .inl ((p : Nat) : Int), .inl ((w : Nat) : Int)] M (fun r M' => r = some (.inl (if s_kn E p w = true then 1 else 0)) ∧ M' = M) := by
  have := R_isKnown 1 p w M hp (by have := hg.1.2.1; omega) (tr_word h (hg.2.1 _ hw))
  rw [tr_kn h] at this
  exact this
theorem sX_336 {M N K : Mm} (hN : cpd M N 33 1) (h : fr 33 61 N K) : sX M K := ⟨fun a ha => by rw [h.2 a (by omega), hN.2.1 a (by omega)], by rw [h.2 61 (by omega), hN.2.1 61 (by omega)], fun a _ => by rw [h.1, hN.1]⟩
theorem upr_back {E : Ev} {r i : Nat} {v w : Int} (h : w = E.1 r i) : upr (upr E r i v) r i w = E := by rw [upr_upr]; exact upr_id h
def frL (M K : Mm) : Prop := K.1 84 25 ≠ 0 ∧ (∀ i, i ≠ 25 → K.1 84 i = M.1 84 i) ∧ (∀ a, a ≠ 84 → (a < 121 ∨ 158 ≤ a) → K.1 a = M.1 a) ∧ (∀ a, a < 121 ∨ 158 ≤ a → K.2 a = M.2 a)
theorem frL_P {M K : Mm} (h : frP M K) : frL M K := ⟨h.1, h.2.1, h.2.2.1, h.2.2.2.1⟩
theorem frL_tr {M K K' : Mm} (h : frL M K) (h' : frL K K') : frL M K' := ⟨h'.1, fun i hi => (h'.2.1 i hi).trans (h.2.1 i hi), fun a h1 h2 => (h'.2.2.1 a h1 h2).trans (h.2.2.1 a h1 h2), fun a ha => (h'.2.2.2 a ha).trans (h.2.2.2 a ha)⟩
theorem frL_s {M K K' : Mm} (h : frL M K) (h' : ∀ a, a < 121 ∨ 158 ≤ a → K'.1 a = K.1 a) (h2 : ∀ a, a < 121 ∨ 158 ≤ a → K'.2 a = K.2 a) : frL M K' := ⟨by rw [h' 84 (by decide)]; exact h.1, fun i hi => by rw [h' 84 (by decide)]; exact h.2.1 i hi, fun a h1 h2 => by rw [h' a h2]; exact h.2.2.1 a h1 h2, fun a ha => by rw [h2 a ha]; exact h.2.2.2 a ha⟩
theorem frL_mF {M K : Mm} (h : frL M K) : mF M K ∧ (if M.1 84 25 = 0 then 1 else 0) + bl K ≤ bl M := by
  refine ⟨⟨fun a ha => h.2.2.1 a (by omega) (by omega), fun i hi => h.2.1 i (by omega), fun a ha => h.2.2.2 a (by omega)⟩, ?_⟩
  unfold bl
  rw [h.2.1 24 (by decide), if_neg h.1]
  omega
theorem frL_J {M K : Mm} {E : Ev} (h : frL M K) (hJ : isM M 84 E) : isM K 84 E := isM_fr hJ (fun i hi => h.2.1 i (by omega)) (fun a h0 h1 => h.2.2.1 a (by omega) (by omega))
theorem fr_again (hF : freshC) {K : Mm} (h : K.1 84 25 ≠ 0) : en_Ct 8 0 237 [.inr (.inr (1, 6, 84))] K (fun r M' => r = some (.inr (.inr (1, 6, 121))) ∧ frP K M') := by
  have := hF K
  rw [if_neg h] at this
  exact this
theorem L_leX {post : Option AV → Mm → Prop} (E E3 : Ev) (N : Mm) (hg : s_ok E) (hev : evs E3 E) (hg3 : s_ok E3) (p : Nat) (t : Int) (hp : (p : Int) < E.1 0 2) (hx : ∀ K : Mm, isE K 1 E → fr 33 61 N K → en_AW 12 0 97 post 171 [some (.inr (.inr (1, 5, 0))), some (.inl ((p : Nat) : Int)), some (.inl t), some (.inl ((s_le E p (E.1 0 1).toNat).1)), some (.inl ((s_le E p (E.1 0 1).toNat).2)), none] [] K 0) : ∀ (n : Nat) (i : Nat) (K : Mm), (((i : Nat) : Int) + ((n : Nat) : Int) = E.1 0 1) → (isE K 1 E) → (isE K 33 E3) → (fr 33 61 N K) → en_AW 12 0 97 post 46 [some (.inr (.inr (1, 5, 0))), some (.inl ((p : Nat) : Int)), some (.inl t), some (.inl ((s_le E p i).1)), some (.inl ((s_le E p i).2)), some (.inl ((i : Nat) : Int))] [] K 0 := by
  intro n
  induction n with
  | zero =>
    intro i K hi hI hI3 hF
    have k1 : K.1 1 1 = E.1 0 1 := r0_I hI 1
    have n1 := hg.1.2.1
    refine aw_97_46 ?_
    refine br_ge_y (a := ((i : Nat) : Int)) (b := K.1 1 1) (by omega) (by omega) (by omega) ?_
    rw [show (E.1 0 1).toNat = i by omega] at hx
    refine en_AW_drop [true, true, true, true, true, false] ?_
    exact hx K hI hF
  | succ n ih =>
    intro i K hi hI hI3 hF
    obtain ⟨n0, n1, n2, a0, a1, a2, a3, a4, a5, a6, a7⟩ := hg.1
    have k1 : K.1 1 1 = E.1 0 1 := r0_I hI 1
    have e01 := hev.1 1 (by decide)
    have k3 : K.1 4 i = E.1 3 i := congrFun (hI.1 3 (by decide)) i
    have ka : K.1 2 0 = E.1 1 0 := congrFun (hI.1 1 (by decide)) 0
    have k40 : K.1 40 i = E3.1 7 i := congrFun (hI3.1 7 (by decide)) i
    have h3w := (hg.2.1 i (by omega)).2.1
    have nb := le_b hg (p := p) (by omega) i (by omega)
    refine aw_97_46 ?_
    refine br_ge_n (a := ((i : Nat) : Int)) (b := K.1 1 1) (by omega) (by omega) (by omega) ?_
    refine ⟨i, rfl, (show i < 24 by omega), ?_⟩
    refine ⟨0, rfl, (show 0 < 8 by omega), ?_⟩
    refine br_ne (a := K.1 4 i) (b := K.1 2 0) (by omega) (by omega) (fun q2 => ?_) (fun q2 => ?_)
    · refine aw_97_165 ?_
      have e := le_f (E := E) (p := p) (n := i) (fun z => by first | exact absurd z.1 (by omega) | exact absurd (by assumption) z.2 | omega)
      refine en_AW_ls (congrArg (fun z_ : Int => ([some (.inr (.inr (1, 5, 0))), some (.inl ((p : Nat) : Int)), some (.inl t), some (.inl z_), some (.inl ((s_le E p i).2)), some (.inl (((i : Nat) : Int) + 1))] : AL)) (show (s_le E p i).1 = (s_le E p (i + 1)).1 from by rw [e])) ?_
      refine en_AW_ls (congrArg (fun z_ : Int => ([some (.inr (.inr (1, 5, 0))), some (.inl ((p : Nat) : Int)), some (.inl t), some (.inl ((s_le E p (i + 1)).1)), some (.inl z_), some (.inl (((i : Nat) : Int) + 1))] : AL)) (show (s_le E p i).2 = (s_le E p (i + 1)).2 from by rw [e])) ?_
      exact ih (i + 1) K (by omega) hI hI3 hF
    · by_cases c3 : s_kn E p i = true
      · refine ⟨1, 0, by first | decide | omega, by first | decide | omega, en_Ct_t (X_kn hI hg (p := p) (w := i) (by omega) (by omega)) c3 ?_⟩
        refine br_ne_y (by decide) (by decide) (by decide) ?_
        refine aw_97_165 ?_
        have e := le_f (E := E) (p := p) (n := i) (fun z => by first | exact absurd z.1 (by omega) | exact absurd (by assumption) z.2 | omega)
        refine en_AW_ls (congrArg (fun z_ : Int => ([some (.inr (.inr (1, 5, 0))), some (.inl ((p : Nat) : Int)), some (.inl t), some (.inl z_), some (.inl ((s_le E p i).2)), some (.inl (((i : Nat) : Int) + 1))] : AL)) (show (s_le E p i).1 = (s_le E p (i + 1)).1 from by rw [e])) ?_
        refine en_AW_ls (congrArg (fun z_ : Int => ([some (.inr (.inr (1, 5, 0))), some (.inl ((p : Nat) : Int)), some (.inl t), some (.inl ((s_le E p (i + 1)).1)), some (.inl z_), some (.inl (((i : Nat) : Int) + 1))] : AL)) (show (s_le E p i).2 = (s_le E p (i + 1)).2 from by rw [e])) ?_
        exact ih (i + 1) K (by omega) hI hI3 hF
      · refine ⟨1, 0, by first | decide | omega, by first | decide | omega, en_Ct_f (X_kn hI hg (p := p) (w := i) (by omega) (by omega)) c3 ?_⟩
        refine br_ne_n (by decide) (by decide) (by decide) ?_
        refine ⟨i, rfl, (show i < 24 by omega), ?_⟩
        refine ⟨i, rfl, (show i < 24 by omega), ?_⟩
        have hT : isE (en_wI K 40 i (en_or (K.1 40 i) (en_shl 1 ((p : Nat) : Int)))) 33 (kn1 E3 p i) := by
          have z := isE_w hI3 (r := 7) (by decide) i (en_or (K.1 40 i) (en_shl 1 ((p : Nat) : Int)))
          rw [k40] at z ⊢
          exact z
        refine ⟨9, 0, by first | decide | omega, by first | decide | omega, en_Ct_mono (R_find 33 (kn1 E3 p i) (en_wI K 40 i (en_or (K.1 40 i) (en_shl 1 ((p : Nat) : Int)))) hT (ok_kn hg3 (by omega) (by omega)) (by decide) p (by omega)) ?_⟩
        rintro _ K1 ⟨rfl, hF1, hS1, hsB, hLn1⟩
        have w0 : K1.1 52 0 = (bst (kn1 E p i) p).1 := by rw [← ev_bst (ev_kn1 hev (show i < 24 by omega)) (ok_kn hg3 (by omega) (by omega))]; exact hS1.1
        have w0' : (en_wI K1 40 i (K1.1 8 i)).1 52 0 = (bst (kn1 E p i) p).1 := w0
        have wb := (bst_sB (ok_kn hg (p := p) (w := i) (by omega) (by omega)) (p := p)).1
        have k8 : K1.1 8 i = E3.1 7 i := by rw [hF1.2 8 (by decide), wI_ne (by decide), ev_r hev 7 (by decide) (by decide) (show i < 24 by omega)]; exact congrFun (hI.1 7 (by decide)) i
        refine ⟨i, rfl, (show i < 24 by omega), ?_⟩
        refine ⟨i, rfl, (show i < 24 by omega), ?_⟩
        refine br_le (a := (en_wI K1 40 i (K1.1 8 i)).1 52 0) (b := (s_le E p i).2) (by omega) (by omega) (fun q6 => ?_) (fun q6 => ?_)
        · refine aw_97_165 ?_
          have e := le_f (E := E) (p := p) (n := i) (fun z => by first | exact absurd z.1 (by omega) | exact absurd (by assumption) z.2 | omega)
          refine en_AW_ls (congrArg (fun z_ : Int => ([some (.inr (.inr (1, 5, 0))), some (.inl ((p : Nat) : Int)), some (.inl t), some (.inl z_), some (.inl ((s_le E p i).2)), some (.inl (((i : Nat) : Int) + 1))] : AL)) (show (s_le E p i).1 = (s_le E p (i + 1)).1 from by rw [e])) ?_
          refine en_AW_ls (congrArg (fun z_ : Int => ([some (.inr (.inr (1, 5, 0))), some (.inl ((p : Nat) : Int)), some (.inl t), some (.inl ((s_le E p (i + 1)).1)), some (.inl z_), some (.inl (((i : Nat) : Int) + 1))] : AL)) (show (s_le E p i).2 = (s_le E p (i + 1)).2 from by rw [e])) ?_
          exact ih (i + 1) _ (by omega) (isE_fr hI (fun a h0 h1 => by rw [wI_ne (by omega), hF1.2 a (by omega), wI_ne (by omega)])) (by
            have z := isE_w (isE_fr hT (fun a h0 h1 => hF1.2 a (by omega))) (r := 7) (by decide) i (K1.1 8 i)
            unfold kn1 at z
            rw [upr_back k8] at z
            exact z) ⟨by show K1.2 = _; rw [hF1.1]; exact hF.1, fun a ha => by rw [wI_ne (by omega), hF1.2 a (by omega), wI_ne (by omega)]; exact hF.2 a ha⟩
        · refine aw_97_165 ?_
          have e := le_t (E := E) (p := p) (n := i) ⟨by omega, by assumption⟩ (by omega)
          refine en_AW_ls (congrArg (fun z_ : Int => ([some (.inr (.inr (1, 5, 0))), some (.inl ((p : Nat) : Int)), some (.inl t), some (.inl z_), some (.inl ((en_wI K1 40 i (K1.1 8 i)).1 52 0)), some (.inl (((i : Nat) : Int) + 1))] : AL)) (show ((i : Nat) : Int) = (s_le E p (i + 1)).1 from by rw [e])) ?_
          refine en_AW_ls (congrArg (fun z_ : Int => ([some (.inr (.inr (1, 5, 0))), some (.inl ((p : Nat) : Int)), some (.inl t), some (.inl ((s_le E p (i + 1)).1)), some (.inl z_), some (.inl (((i : Nat) : Int) + 1))] : AL)) (show (en_wI K1 40 i (K1.1 8 i)).1 52 0 = (s_le E p (i + 1)).2 from by rw [e]; exact w0)) ?_
          exact ih (i + 1) _ (by omega) (isE_fr hI (fun a h0 h1 => by rw [wI_ne (by omega), hF1.2 a (by omega), wI_ne (by omega)])) (by
            have z := isE_w (isE_fr hT (fun a h0 h1 => hF1.2 a (by omega))) (r := 7) (by decide) i (K1.1 8 i)
            unfold kn1 at z
            rw [upr_back k8] at z
            exact z) ⟨by show K1.2 = _; rw [hF1.1]; exact hF.1, fun a ha => by rw [wI_ne (by omega), hF1.2 a (by omega), wI_ne (by omega)]; exact hF.2 a ha⟩
def a_learn (E : Ev) (x : Int) (t : Int) : Nat × Int := if (0 ≤ x ∧ x < E.1 0 2) ∧ (0 ≤ t ∧ t ≤ 1) then (0, vle E x.toNat t) else (1, -2)
theorem PX_learn (E : Ev) (M : Mm) (hI : isE M 1 E) (hg : s_ok E) (x : Int) (t : Int) (hx : -2147483648 ≤ x ∧ x < 2147483648) (ht : -2147483648 ≤ t ∧ t < 2147483648) : en_Ct 12 0 97 [.inr (.inr (1, 5, 0)), .inl x, .inl t] M (fun r M' => r = some (.inl (a_learn E x t).2) ∧ sX (aX M (a_learn E x t).1) M') := by
  obtain ⟨n0, n1, n2, a0, a1, a2, a3, a4, a5, a6, a7⟩ := hg.1
  have r0 : M.1 1 0 = E.1 0 0 := r0_I hI 0
  have r1 : M.1 1 1 = E.1 0 1 := r0_I hI 1
  have r2 : M.1 1 2 = E.1 0 2 := r0_I hI 2
  refine ct_97 rfl ?_
  refine aw_97_0 ?_
  by_cases c1 : 0 ≤ x ∧ x < E.1 0 2
  · refine ⟨2, 0, by first | decide | omega, by first | decide | omega, en_Ct_t (X_isPerson (M := M) (e := 1) (E := E) hI hg (x := x) (by omega)) c1 ?_⟩
    refine br_eq_n (by decide) (by decide) (by decide) ?_
    by_cases c3 : 0 ≤ t ∧ t ≤ 1
    · refine ⟨1, 0, by first | decide | omega, by first | decide | omega, en_Ct_t (R_within t 0 1 (by omega) (by omega) (by omega) _) c3 ?_⟩
      refine br_ne_y (by decide) (by decide) (by decide) ?_
      obtain ⟨p, rfl⟩ := Int.eq_ofNat_of_zero_le (show 0 ≤ x by omega)
      refine aw_97_27 ?_
      refine ⟨1, 0, by first | decide | omega, by first | decide | omega, en_Ct_mono (R_be_33_1 M (fun i hi => by rw [show M.1 9 = E.1 8 from hI.1 8 (by decide)]; exact hg.2.2.2.2 i hi)) ?_⟩
      rintro _ N ⟨rfl, hN⟩
      obtain ⟨hev, hg3, hIN⟩ := th_ev hI hg hN
      refine L_leX E (vE N 33) N hg hev hg3 p t (by omega) (fun K hIK hK => ?_) (E.1 0 1).toNat 0 N (by omega) hIN isE_self fr_rfl
      have nb := le_b hg (p := p) (by omega) (E.1 0 1).toNat (by omega)
      have wb := (bst_sB hg (p := p)).1
      refine aw_97_171 ?_
      refine br_ne (a := t) (b := 0) (by omega) (by omega) (fun q1 => ?_) (fun q1 => ?_)
      · refine aw_97_177 ?_
        refine ⟨9, 0, by first | decide | omega, by first | decide | omega, en_Ct_mono (R_find 1 E K hIK hg (by decide) p (by omega)) ?_⟩
        rintro _ K1 ⟨rfl, hF1, hS1, hsB, hLn1⟩
        have w0 := hS1.1
        have ha : a_learn E p t = (0, if en_wr 0 < en_wr (((s_le E p (E.1 0 1).toNat).2) - (K1.1 52 0)) then ((s_le E p (E.1 0 1).toNat).2) - (K1.1 52 0) else 0) := by
          unfold a_learn vle
          rw [if_pos (by omega), Int.toNat_natCast]
          refine congrArg (fun z : Int => ((0 : Nat), z)) ?_
          rw [if_neg (by omega), w0, en_wr_of (x := 0) ⟨by decide, by decide⟩, en_wr_of ⟨by omega, by omega⟩]
          split <;> split <;> omega
        rw [ha]
        exact ⟨rfl, sX_336 hN (fr_tr hK ⟨hF1.1, fun a ha => hF1.2 a (by omega)⟩)⟩
      · have ha : a_learn E p t = (0, (s_le E p (E.1 0 1).toNat).1) := by
          unfold a_learn vle
          rw [if_pos (by omega), Int.toNat_natCast]
          refine congrArg (fun z : Int => ((0 : Nat), z)) ?_
          rw [if_pos (by omega)]
        rw [ha]
        exact ⟨rfl, sX_336 hN hK⟩
    · refine ⟨1, 0, by first | decide | omega, by first | decide | omega, en_Ct_f (R_within t 0 1 (by omega) (by omega) (by omega) _) c3 ?_⟩
      refine br_ne_n (by decide) (by decide) (by decide) ?_
      refine aw_97_20 ?_
      refine ⟨2, 0, by first | decide | omega, by first | decide | omega, en_Ct_eq (R_refX (-2) (by omega) M) ?_⟩
      have ha : a_learn E x t = (1, (-2)) := by
        unfold a_learn
        repeat first | rw [if_pos (by omega)] | rw [if_neg (by omega)]
        first | done | rfl | (rfl)
      rw [ha]
      exact ⟨rfl, sX_rfl⟩
  · refine ⟨2, 0, by first | decide | omega, by first | decide | omega, en_Ct_f (X_isPerson (M := M) (e := 1) (E := E) hI hg (x := x) (by omega)) c1 ?_⟩
    refine br_eq_y (by decide) (by decide) (by decide) ?_
    refine aw_97_20 ?_
    refine ⟨2, 0, by first | decide | omega, by first | decide | omega, en_Ct_eq (R_refX (-2) (by omega) M) ?_⟩
    have ha : a_learn E x t = (1, (-2)) := by
      unfold a_learn
      repeat first | rw [if_pos (by omega)] | rw [if_neg (by omega)]
      first | done | rfl | (rfl)
    rw [ha]
    exact ⟨rfl, sX_rfl⟩
theorem ea_learn {E F : Ev} (h : evs E F) (hg : s_ok E) {x : Int} {t : Int} : a_learn E x t = a_learn F x t := by
  have hb := hg.1.2.2.1
  have hw := hg.1.2.1
  unfold a_learn
  rw [← h.1 2 (by decide)]
  split
  · unfold vle
    rw [← ev_ww h, ev_bst h hg, ev_le h hg (by omega) _ (by omega)]
  · rfl
theorem L_leM {post : Option AV → Mm → Prop} (hF : freshC) (bm b1 : Nat) (E : Ev) (M : Mm) (hg : s_ok E) (p : Nat) (t d : Int) (hp : (p : Int) < E.1 0 2) (hx : ∀ (K : Mm) (b m : Int), isM K 84 E → frL M K → ((b = -1 ∧ (s_le E p (E.1 0 1).toNat).1 = -1) ∨ (b ≠ -1 ∧ b = (s_le E p (E.1 0 1).toNat).1 ∧ m = (s_le E p (E.1 0 1).toNat).2)) → (0 ≤ m ∧ m ≤ 250) → en_AW 20 bm 219 post 143 [some (.inr (.inr (1, 6, 84))), some (.inl ((p : Nat) : Int)), some (.inl t), some (.inr (.inr (1, 6, 121))), some (.inl d), some (.inl b), some (.inl m), none] [] K b1) : ∀ (n : Nat) (i : Nat) (K : Mm) (b : Int) (m : Int), (((i : Nat) : Int) + ((n : Nat) : Int) = E.1 0 1) → (isM K 84 E) → (frL M K) → ((b = -1 ∧ (s_le E p i).1 = -1) ∨ (b ≠ -1 ∧ b = (s_le E p i).1 ∧ m = (s_le E p i).2)) → (0 ≤ m ∧ m ≤ 250) → en_AW 20 bm 219 post 50 [some (.inr (.inr (1, 6, 84))), some (.inl ((p : Nat) : Int)), some (.inl t), some (.inr (.inr (1, 6, 121))), some (.inl d), some (.inl b), some (.inl m), some (.inl ((i : Nat) : Int))] [] K b1 := by
  intro n
  induction n with
  | zero =>
    intro i K b m hi hJ hL hbm hmb
    have k1 : K.1 84 10 = E.1 0 1 := hJ.1.2.1
    have n1 := hg.1.2.1
    refine aw_219_50 ?_
    refine br_ge_y (a := ((i : Nat) : Int)) (b := K.1 84 10) (by omega) (by omega) (by omega) ?_
    rw [show (E.1 0 1).toNat = i by omega] at hx
    refine en_AW_drop [true, true, true, true, true, true, true, false] ?_
    exact hx K b m hJ hL hbm hmb
  | succ n ih =>
    intro i K b m hi hJ hL hbm hmb
    obtain ⟨n0, n1, n2, a0, a1, a2, a3, a4, a5, a6, a7⟩ := hg.1
    have k1 : K.1 84 10 = E.1 0 1 := hJ.1.2.1
    have k3 : K.1 102 i = E.1 3 i := congrFun (hJ.2.1.2.2.2 3 (by decide) (by decide)) i
    have ka : K.1 115 0 = E.1 1 0 := congrFun hJ.2.1.1 0
    have k7 : K.1 106 i = E.1 7 i := congrFun (hJ.2.1.2.2.2 7 (by decide) (by decide)) i
    have hkw := (hg.2.1 i (by omega)).2.2.2.2.2.1
    have hkn : (s_kn E p i = true ∧ en_and (en_shr (K.1 106 i) ((p : Nat) : Int)) 1 ≠ 0) ∨ (s_kn E p i ≠ true ∧ en_and (en_shr (K.1 106 i) ((p : Nat) : Int)) 1 = 0) := by
      have ki := kn_i (E := E) (p := p) (n := i) (by omega) hkw.1 hkw.2
      rw [k7]
      by_cases z : s_kn E p i = true
      · exact Or.inl ⟨z, ki.mp z⟩
      · exact Or.inr ⟨z, by
          by_cases z2 : en_and (en_shr (E.1 7 i) ((p : Nat) : Int)) 1 = 0
          · exact z2
          · exact absurd (ki.mpr z2) z⟩
    have h3w := (hg.2.1 i (by omega)).2.1
    have hkb := kb (a := K.1 106 i) (p := ((p : Nat) : Int)) (by omega) (by omega) (by omega) (by omega)
    have nb := le_b hg (p := p) (by omega) i (by omega)
    refine aw_219_50 ?_
    refine br_ge_n (a := ((i : Nat) : Int)) (b := K.1 84 10) (by omega) (by omega) (by omega) ?_
    refine ⟨i, rfl, (show i < 24 by omega), ?_⟩
    refine ⟨0, rfl, (show 0 < 8 by omega), ?_⟩
    refine br_ne (a := K.1 102 i) (b := K.1 115 0) (by omega) (by omega) (fun q2 => ?_) (fun q2 => ?_)
    · refine aw_219_137 ?_
      have e := le_f (E := E) (p := p) (n := i) (fun z => absurd z (fun z => by
        rcases hkn with ⟨z1, z2⟩ | ⟨z1, z2⟩
        · exact z.2 z1
        · omega))
      have hbm2 : (b = -1 ∧ (s_le E p (i + 1)).1 = -1) ∨ (b ≠ -1 ∧ b = (s_le E p (i + 1)).1 ∧ m = (s_le E p (i + 1)).2) := by
        rw [e]
        first | omega | exact Or.inr ⟨by omega, rfl, w0⟩
      exact ih (i + 1) K b m (by omega) hJ hL hbm2 (by omega)
    · refine ⟨i, rfl, (show i < 24 by omega), ?_⟩
      refine br_ne (a := en_and (en_shr (K.1 106 i) ((p : Nat) : Int)) 1) (b := 0) (by omega) (by omega) (fun q3 => ?_) (fun q3 => ?_)
      · refine aw_219_137 ?_
        have e := le_f (E := E) (p := p) (n := i) (fun z => absurd z (fun z => by
          rcases hkn with ⟨z1, z2⟩ | ⟨z1, z2⟩
          · exact z.2 z1
          · omega))
        have hbm2 : (b = -1 ∧ (s_le E p (i + 1)).1 = -1) ∨ (b ≠ -1 ∧ b = (s_le E p (i + 1)).1 ∧ m = (s_le E p (i + 1)).2) := by
          rw [e]
          first | omega | exact Or.inr ⟨by omega, rfl, w0⟩
        exact ih (i + 1) K b m (by omega) hJ hL hbm2 (by omega)
      · refine ⟨8, 0, by first | decide | omega, by first | decide | omega, en_Ct_mono (fr_again hF hL.1) ?_⟩
        rintro _ N2 ⟨rfl, hN2⟩
        obtain ⟨hJ2, hev2, hg2⟩ := fr_ev hJ hg hN2
        have e01 := hev2.1 1 (by decide)
        have e02 := hev2.1 2 (by decide)
        refine ⟨i, rfl, (show i < 24 by omega), ?_⟩
        refine ⟨i, rfl, (show i < 24 by omega), ?_⟩
        have hT : isM (en_wI N2 143 i (en_or (N2.1 143 i) (en_shl 1 ((p : Nat) : Int)))) 121 (kn1 (vM N2 121) p i) := isM_w (isM_self (M := N2) (b := 121)) (a := 143) (r := 7) (by decide) i (en_or (N2.1 143 i) (en_shl 1 ((p : Nat) : Int)))
        refine ⟨14, 0, by first | decide | omega, by first | decide | omega, en_Ct_mono (R_findBest 121 (kn1 (vM N2 121) p i) (ok_kn hg2 (by omega) (by omega)) p (by show _ < (vM N2 121).1 0 2; omega) (en_wI N2 143 i (en_or (N2.1 143 i) (en_shl 1 ((p : Nat) : Int)))) (isQ_M hT)) ?_⟩
        rintro _ K1 ⟨rfl, hFT, hQT, w0, -, -⟩
        rw [ev_bst (ev_kn1 hev2 (show i < 24 by omega)) (ok_kn hg2 (by omega) (by omega))] at w0
        have wb := (bst_sB (ok_kn hg (p := p) (w := i) (by omega) (by omega)) (p := p)).1
        refine br_eq (a := b) (b := (-1)) (by omega) (by omega) (fun q4 => ?_) (fun q4 => ?_)
        · refine aw_219_127 ?_
          refine aw_219_137 ?_
          have hz : E.1 3 i = E.1 1 0 ∧ s_kn E p i ≠ true := ⟨by omega, by
            rcases hkn with ⟨z1, z2⟩ | ⟨z1, z2⟩
            · omega
            · exact z1⟩
          have e := le_t (E := E) (p := p) (n := i) hz (by omega)
          have hbm2 : (((i : Nat) : Int) = -1 ∧ (s_le E p (i + 1)).1 = -1) ∨ (((i : Nat) : Int) ≠ -1 ∧ ((i : Nat) : Int) = (s_le E p (i + 1)).1 ∧ (K1.1 121 36) = (s_le E p (i + 1)).2) := by
            rw [e]
            first | omega | exact Or.inr ⟨by omega, rfl, w0⟩
          have hL2 : frL M K1 := frL_s (frL_tr hL (frL_P hN2)) (fun a ha => by rw [hFT.1 a (by omega) (by omega) (by omega) (by omega), wI_ne (by omega)]) (fun a _ => by rw [hFT.2.2]; rfl)
          exact ih (i + 1) K1 ((i : Nat) : Int) (K1.1 121 36) (by omega) (isM_fr hJ2 (fun j _ => by rw [hFT.1 84 (by decide) (by decide) (by omega) (by decide), wI_ne (by decide)]) (fun a h0 h1 => by rw [hFT.1 a (by omega) (by omega) (by omega) (by omega), wI_ne (by omega)])) hL2 hbm2 (by omega)
        · refine br_le (a := K1.1 121 36) (b := m) (by omega) (by omega) (fun q5 => ?_) (fun q5 => ?_)
          · refine aw_219_137 ?_
            have hz : E.1 3 i = E.1 1 0 ∧ s_kn E p i ≠ true := ⟨by omega, by
              rcases hkn with ⟨z1, z2⟩ | ⟨z1, z2⟩
              · omega
              · exact z1⟩
            have e := le_f (E := E) (p := p) (n := i) (fun _ => by omega)
            have hbm2 : (b = -1 ∧ (s_le E p (i + 1)).1 = -1) ∨ (b ≠ -1 ∧ b = (s_le E p (i + 1)).1 ∧ m = (s_le E p (i + 1)).2) := by
              rw [e]
              first | omega | exact Or.inr ⟨by omega, rfl, w0⟩
            have hL2 : frL M K1 := frL_s (frL_tr hL (frL_P hN2)) (fun a ha => by rw [hFT.1 a (by omega) (by omega) (by omega) (by omega), wI_ne (by omega)]) (fun a _ => by rw [hFT.2.2]; rfl)
            exact ih (i + 1) K1 b m (by omega) (isM_fr hJ2 (fun j _ => by rw [hFT.1 84 (by decide) (by decide) (by omega) (by decide), wI_ne (by decide)]) (fun a h0 h1 => by rw [hFT.1 a (by omega) (by omega) (by omega) (by omega), wI_ne (by omega)])) hL2 hbm2 (by omega)
          · refine aw_219_127 ?_
            refine aw_219_137 ?_
            have hz : E.1 3 i = E.1 1 0 ∧ s_kn E p i ≠ true := ⟨by omega, by
              rcases hkn with ⟨z1, z2⟩ | ⟨z1, z2⟩
              · omega
              · exact z1⟩
            have e := le_t (E := E) (p := p) (n := i) hz (by omega)
            have hbm2 : (((i : Nat) : Int) = -1 ∧ (s_le E p (i + 1)).1 = -1) ∨ (((i : Nat) : Int) ≠ -1 ∧ ((i : Nat) : Int) = (s_le E p (i + 1)).1 ∧ (K1.1 121 36) = (s_le E p (i + 1)).2) := by
              rw [e]
              first | omega | exact Or.inr ⟨by omega, rfl, w0⟩
            have hL2 : frL M K1 := frL_s (frL_tr hL (frL_P hN2)) (fun a ha => by rw [hFT.1 a (by omega) (by omega) (by omega) (by omega), wI_ne (by omega)]) (fun a _ => by rw [hFT.2.2]; rfl)
            exact ih (i + 1) K1 ((i : Nat) : Int) (K1.1 121 36) (by omega) (isM_fr hJ2 (fun j _ => by rw [hFT.1 84 (by decide) (by decide) (by omega) (by decide), wI_ne (by decide)]) (fun a h0 h1 => by rw [hFT.1 a (by omega) (by omega) (by omega) (by omega), wI_ne (by omega)])) hL2 hbm2 (by omega)
