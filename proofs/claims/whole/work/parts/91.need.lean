/-! needFor -/
theorem upr_self {E : Ev} {r i : Nat} {v : Int} (h : E.1 r i = v) : upr E r i v = E := by
  subst h
  unfold upr
  refine Prod.ext (funext fun q => ?_) rfl
  by_cases hq : q = r
  · subst hq
    simp only [if_true]
    funext j
    by_cases hj : j = i
    · subst hj; rw [if_pos rfl]
    · rw [if_neg hj]
  · simp only [if_neg hq]
theorem upr_upr {E : Ev} {r i : Nat} {v w : Int} : upr (upr E r i v) r i w = upr E r i w := by
  unfold upr
  refine Prod.ext (funext fun q => ?_) rfl
  by_cases hq : q = r
  · subst hq
    simp only [if_true]
    funext j
    by_cases hj : j = i
    · subst hj; rw [if_pos rfl, if_pos rfl]
    · rw [if_neg hj, if_neg hj, if_neg hj]
  · simp only [if_neg hq]
theorem ok_need {E : Ev} (hg : s_ok E) {v : Int} (hv : 1 ≤ v ∧ v ≤ 5) : s_ok (upr E 1 1 v) := by
  refine ok_up hg ?_ (wok_n hg.2.1 (by omega)) (by omega) (by decide) (by omega) (by omega)
  have hn := hg.1
  unfold s_num at hn ⊢
  rw [upr_n (q := 0) (by omega), upr_n (q := 0) (by omega), upr_n (q := 0) (by omega)]
  refine ⟨hn.1, hn.2.1, hn.2.2.1, ?_⟩
  simp [upr]
  omega
def s_lead (E : Ev) (p : Nat) : Int := if (s_ld E (p : Int) (E.1 0 2).toNat).1 = -1 then pts E p (-1) else pts E p (-1) - pts E (s_ld E (p : Int) (E.1 0 2).toNat).1.toNat (-1)
def s_nf (E : Ev) (p : Nat) : Nat → Int × Int
  | 0 => (-1, 0)
  | n + 1 => if (s_nf E p n).1 = -1 ∨ (s_nf E p n).2 < s_lead (upr E 1 1 ((n : Int) + 1)) p then ((n : Int) + 1, s_lead (upr E 1 1 ((n : Int) + 1)) p) else s_nf E p n
theorem ev_slead {E F : Ev} (h : evs E F) (hg : s_ok E) {p : Nat} (hp : p < 4) : s_lead E p = s_lead F p := by
  unfold s_lead
  have e := ev_lead (o := (p : Int)) h hg
  rw [← e, ev_pts h hg hp]
  have hb := s_ld_b (o := (p : Int)) hg (E.1 0 2).toNat (ok_pp hg)
  have := ok_pp hg
  by_cases hn : (s_ld E (p : Int) (E.1 0 2).toNat).1 = -1
  · rw [if_pos hn, if_pos hn]
  · rw [if_neg hn, if_neg hn, ev_pts h hg (p := (s_ld E (p : Int) (E.1 0 2).toNat).1.toNat) (by omega)]
theorem ev_nf {E F : Ev} (h : evs E F) (hg : s_ok E) {p : Nat} (hp : p < 4) : ∀ n, n ≤ 5 → s_nf E p n = s_nf F p n
  | 0, _ => rfl
  | n + 1, hn => by rw [s_nf, s_nf, ev_nf h hg hp n (by omega), ev_slead (ev_upr h (by decide) _) (ok_need hg (by omega)) hp]
theorem lead_b {E : Ev} (hg : s_ok E) {p : Nat} (hp : p < 4) : -250 ≤ s_lead E p ∧ s_lead E p ≤ 250 := by
  unfold s_lead
  have hb := s_ld_b (o := (p : Int)) hg (E.1 0 2).toNat (ok_pp hg)
  have h4 := ok_pp hg
  have h1 := pts_b (E := E) (p := p) (c := -1) hg hp
  split
  · omega
  · have h2 := pts_b (E := E) (p := (s_ld E (p : Int) (E.1 0 2).toNat).1.toNat) (c := -1) hg (by omega)
    omega
theorem nf_b {E : Ev} (hg : s_ok E) {p : Nat} (hp : p < 4) : ∀ n, n ≤ 5 → (-1 ≤ (s_nf E p n).1 ∧ (s_nf E p n).1 ≤ 5) ∧ (-250 ≤ (s_nf E p n).2 ∧ (s_nf E p n).2 ≤ 250) ∧ (1 ≤ n → 1 ≤ (s_nf E p n).1)
  | 0, _ => by simp [s_nf]
  | n + 1, hn => by
    have ih := nf_b hg hp n (by omega)
    have hl := lead_b (E := upr E 1 1 ((n : Int) + 1)) (ok_need hg (by omega)) hp
    rw [s_nf]
    split
    · dsimp only
      omega
    · rename_i hz
      have hne : (s_nf E p n).1 ≠ -1 := fun z => hz (Or.inl z)
      refine ⟨ih.1, ih.2.1, fun _ => ?_⟩
      by_cases h0 : n = 0
      · subst h0
        exact absurd rfl hne
      · exact ih.2.2 (by omega)
theorem th_ev {M N : Mm} {E : Ev} (hI : isE M 1 E) (hg : s_ok E) (hN : cpd M N 33 1) : evs (vE N 33) E ∧ s_ok (vE N 33) ∧ isE N 1 E := by
  have e1 := isE_evs hI
  have h2 : evs (vE N 33) (vE M 1) := evq_evs hN.2.2 (fun p hp => by
    rw [(hN.2.2.2.2.2.1 p hp).1, (e1.2.2.2.1 p hp).1]
    exact (hg.2.2.1 p hp).1.2)
  have h3 := evs_tr h2 e1
  exact ⟨h3, ev_ok (evs_symm h3) hg, isE_fr hI (fun a h0 h1 => hN.2.1 a (by omega))⟩
theorem R_pit (E : Ev) (M : Mm) (hI : isE M 33 E) (hg : s_ok E) (x : Int) (h0 : 0 ≤ x) (h1 : x < E.1 0 2) : en_Ct 5 0 132 [.inr (.inr (1, 5, 0)), .inl x] M (fun r M' => r = some (.inl (pts E x.toNat (-1))) ∧ fr 49 52 M M' ∧ isO M' E) := by
  obtain ⟨n0, n1, n2, a0, a1, a2, a3, a4, a5, a6, a7⟩ := hg.1
  refine ct_132 rfl ?_
  refine aw_132_0 ?_
  refine ⟨4, 0, by first | decide | omega, by first | decide | omega, en_Ct_mono (R_reckon 33 E M hI hg (by omega)) ?_⟩
  rintro _ K1 ⟨rfl, hf, hO⟩
  replace hI := isE_o hI hf (Or.inl (by omega))
  refine ⟨3, 0, by first | decide | omega, by first | decide | omega, en_Ct_eq (X_pin (M := K1) (e := 33) (E := E) hI hO hg (x := x) (by omega) (by omega) (c := (-1)) (by omega)) ?_⟩
  have pb3 := pts_b (E := E) (p := x.toNat) (c := (-1)) hg (by omega)
  exact ⟨rfl, hf, hO⟩
theorem R_lit (E : Ev) (M : Mm) (hI : isE M 33 E) (hg : s_ok E) (x : Int) (h0 : 0 ≤ x) (h1 : x < E.1 0 2) : en_Ct 6 0 133 [.inr (.inr (1, 5, 0)), .inl x] M (fun r M' => r = some (.inl (s_lead E x.toNat)) ∧ fr 49 52 M M') := by
  obtain ⟨n0, n1, n2, a0, a1, a2, a3, a4, a5, a6, a7⟩ := hg.1
  have hb := s_ld_b (o := x) hg (E.1 0 2).toNat (ok_pp hg)
  have hx4 := ok_pp hg
  have exx : ((x.toNat : Nat) : Int) = x := by omega
  refine ct_133 rfl ?_
  refine aw_133_0 ?_
  refine ⟨5, 0, by first | decide | omega, by first | decide | omega, en_Ct_mono (R_pit E M hI hg x (by omega) (by omega)) ?_⟩
  rintro _ K1 ⟨rfl, hf, hO⟩
  replace hI := isE_o hI hf (Or.inl (by omega))
  refine ⟨4, 0, by first | decide | omega, by first | decide | omega, en_Ct_eq (R_ld 33 E K1 hI hO hg x (by omega)) ?_⟩
  refine br_ne (a := (s_ld E x (E.1 0 2).toNat).1) (b := (-1)) (by omega) (by omega) (fun q2 => ?_) (fun q2 => ?_)
  · refine aw_133_28 ?_
    refine ⟨3, 0, by first | decide | omega, by first | decide | omega, en_Ct_eq (X_pin (M := K1) (e := 33) (E := E) hI hO hg (x := ((s_ld E x (E.1 0 2).toNat).1)) (by omega) (by omega) (c := (-1)) (by omega)) ?_⟩
    have pb3 := pts_b (E := E) (p := (((s_ld E x (E.1 0 2).toNat).1).toNat)) (c := (-1)) hg (by omega)
    refine aw_133_43 ?_
    refine ⟨congrArg (fun z => some (Sum.inl z)) (show (pts E x.toNat (-1)) - (pts E (((s_ld E x (E.1 0 2).toNat).1).toNat) (-1)) = s_lead E x.toNat from ?_), hf⟩
    unfold s_lead
    rw [exx]
    repeat first | rw [if_pos (by omega)] | rw [if_neg (by omega)]
  · refine aw_133_43 ?_
    refine ⟨congrArg (fun z => some (Sum.inl z)) (show pts E x.toNat (-1) = s_lead E x.toNat from ?_), hf⟩
    unfold s_lead
    rw [exx]
    repeat first | rw [if_pos (by omega)] | rw [if_neg (by omega)]
theorem L_nfX {post : Option AV → Mm → Prop} (E : Ev) (N : Mm) (hg : s_ok E) (x : Int) (h0 : 0 ≤ x) (hxP : x < E.1 0 2) (hq : ∀ K : Mm, fr 33 52 N K → post (some (.inl (s_nf E x.toNat 5).1)) K) : ∀ (n : Nat) (i : Nat) (K : Mm) (t : Int), (i + n = 5) → (1 ≤ t ∧ t ≤ 5) → (isE K 33 (upr E 1 1 t)) → (fr 33 52 N K) → en_AW 9 0 107 post 40 [some (.inr (.inr (1, 5, 0))), some (.inl x), some (.inl ((s_nf E x.toNat i).1)), some (.inl ((s_nf E x.toNat i).2)), some (.inl (((i : Nat) : Int) + 1)), none] [] K 0 := by
  intro n
  induction n with
  | zero =>
    intro i K t hi ht hI hF
    refine aw_107_40 ?_
    refine ⟨1, rfl, (show 1 < 8 by omega), ?_⟩
    refine br_gt_y (a := ((i : Nat) : Int) + 1) (b := 5) (by omega) (by omega) (by omega) ?_
    refine aw_107_91 ?_
    rw [show i = 5 by omega]
    exact hq K hF
  | succ n ih =>
    intro i K t hi ht hI hF
    obtain ⟨n0, n1, n2, a0, a1, a2, a3, a4, a5, a6, a7⟩ := hg.1
    have nb := nf_b hg (p := x.toNat) (by omega) i (by omega)
    refine aw_107_40 ?_
    refine ⟨1, rfl, (show 1 < 8 by omega), ?_⟩
    refine br_gt_n (a := ((i : Nat) : Int) + 1) (b := 5) (by omega) (by omega) (by omega) ?_
    refine ⟨1, rfl, (show 1 < 8 by omega), ?_⟩
    have hI2 : isE (en_wI K 34 1 (((i : Nat) : Int) + 1)) 33 (upr E 1 1 ((i : Int) + 1)) := by
      have z := isE_w hI (r := 1) (by decide) 1 ((i : Int) + 1)
      rw [upr_upr] at z
      exact z
    refine ⟨6, 0, by first | decide | omega, by first | decide | omega, en_Ct_mono (R_lit (upr E 1 1 ((i : Int) + 1)) (en_wI K 34 1 (((i : Nat) : Int) + 1)) hI2 (ok_need hg (by omega)) x (by omega) (by exact hxP)) ?_⟩
    rintro _ K2 ⟨rfl, hfl⟩
    have lb := lead_b (E := upr E 1 1 ((i : Int) + 1)) (p := x.toNat) (ok_need hg (by omega)) (by omega)
    refine br_eq (a := (s_nf E x.toNat i).1) (b := (-1)) (by omega) (by omega) (fun q3 => ?_) (fun q3 => ?_)
    · refine aw_107_79 ?_
      refine aw_107_85 ?_
      refine en_AW_drop [true, true, true, true, true, false] ?_
      have e : s_nf E x.toNat (i + 1) = (((i : Int) + 1), s_lead (upr E 1 1 ((i : Int) + 1)) x.toNat) := if_pos (by omega)
      refine en_AW_ls (congrArg (fun z_ : Int => ([some (.inr (.inr (1, 5, 0))), some (.inl x), some (.inl z_), some (.inl (s_lead (upr E 1 1 ((i : Int) + 1)) x.toNat)), some (.inl ((((i : Nat) : Int) + 1) + 1)), none] : AL)) (show ((i : Nat) : Int) + 1 = (s_nf E x.toNat (i + 1)).1 from by rw [e])) ?_
      refine en_AW_ls (congrArg (fun z_ : Int => ([some (.inr (.inr (1, 5, 0))), some (.inl x), some (.inl ((s_nf E x.toNat (i + 1)).1)), some (.inl z_), some (.inl ((((i : Nat) : Int) + 1) + 1)), none] : AL)) (show s_lead (upr E 1 1 ((i : Int) + 1)) x.toNat = (s_nf E x.toNat (i + 1)).2 from by rw [e])) ?_
      refine en_AW_ls (congrArg (fun z_ : Int => ([some (.inr (.inr (1, 5, 0))), some (.inl x), some (.inl ((s_nf E x.toNat (i + 1)).1)), some (.inl ((s_nf E x.toNat (i + 1)).2)), some (.inl z_), none] : AL)) (show (((i : Nat) : Int) + 1) + 1 = ((i + 1 : Nat) : Int) + 1 from by omega)) ?_
      exact ih (i + 1) _ ((i : Int) + 1) (by omega) (by omega) (isE_fr hI2 (fun a h0 h1 => hfl.2 a (by omega))) ⟨by rw [hfl.1]; exact hF.1, fun a ha => by rw [hfl.2 a (by omega), wI_ne (by omega)]; exact hF.2 a ha⟩
    · refine br_le (a := s_lead (upr E 1 1 ((i : Int) + 1)) x.toNat) (b := (s_nf E x.toNat i).2) (by omega) (by omega) (fun q4 => ?_) (fun q4 => ?_)
      · refine aw_107_85 ?_
        refine en_AW_drop [true, true, true, true, true, false] ?_
        have e : s_nf E x.toNat (i + 1) = s_nf E x.toNat i := if_neg (by omega)
        refine en_AW_ls (congrArg (fun z_ : Int => ([some (.inr (.inr (1, 5, 0))), some (.inl x), some (.inl z_), some (.inl ((s_nf E x.toNat i).2)), some (.inl ((((i : Nat) : Int) + 1) + 1)), none] : AL)) (show (s_nf E x.toNat i).1 = (s_nf E x.toNat (i + 1)).1 from by rw [e])) ?_
        refine en_AW_ls (congrArg (fun z_ : Int => ([some (.inr (.inr (1, 5, 0))), some (.inl x), some (.inl ((s_nf E x.toNat (i + 1)).1)), some (.inl z_), some (.inl ((((i : Nat) : Int) + 1) + 1)), none] : AL)) (show (s_nf E x.toNat i).2 = (s_nf E x.toNat (i + 1)).2 from by rw [e])) ?_
        refine en_AW_ls (congrArg (fun z_ : Int => ([some (.inr (.inr (1, 5, 0))), some (.inl x), some (.inl ((s_nf E x.toNat (i + 1)).1)), some (.inl ((s_nf E x.toNat (i + 1)).2)), some (.inl z_), none] : AL)) (show (((i : Nat) : Int) + 1) + 1 = ((i + 1 : Nat) : Int) + 1 from by omega)) ?_
        exact ih (i + 1) _ ((i : Int) + 1) (by omega) (by omega) (isE_fr hI2 (fun a h0 h1 => hfl.2 a (by omega))) ⟨by rw [hfl.1]; exact hF.1, fun a ha => by rw [hfl.2 a (by omega), wI_ne (by omega)]; exact hF.2 a ha⟩
      · refine aw_107_79 ?_
        refine aw_107_85 ?_
        refine en_AW_drop [true, true, true, true, true, false] ?_
        have e : s_nf E x.toNat (i + 1) = (((i : Int) + 1), s_lead (upr E 1 1 ((i : Int) + 1)) x.toNat) := if_pos (by omega)
        refine en_AW_ls (congrArg (fun z_ : Int => ([some (.inr (.inr (1, 5, 0))), some (.inl x), some (.inl z_), some (.inl (s_lead (upr E 1 1 ((i : Int) + 1)) x.toNat)), some (.inl ((((i : Nat) : Int) + 1) + 1)), none] : AL)) (show ((i : Nat) : Int) + 1 = (s_nf E x.toNat (i + 1)).1 from by rw [e])) ?_
        refine en_AW_ls (congrArg (fun z_ : Int => ([some (.inr (.inr (1, 5, 0))), some (.inl x), some (.inl ((s_nf E x.toNat (i + 1)).1)), some (.inl z_), some (.inl ((((i : Nat) : Int) + 1) + 1)), none] : AL)) (show s_lead (upr E 1 1 ((i : Int) + 1)) x.toNat = (s_nf E x.toNat (i + 1)).2 from by rw [e])) ?_
        refine en_AW_ls (congrArg (fun z_ : Int => ([some (.inr (.inr (1, 5, 0))), some (.inl x), some (.inl ((s_nf E x.toNat (i + 1)).1)), some (.inl ((s_nf E x.toNat (i + 1)).2)), some (.inl z_), none] : AL)) (show (((i : Nat) : Int) + 1) + 1 = ((i + 1 : Nat) : Int) + 1 from by omega)) ?_
        exact ih (i + 1) _ ((i : Int) + 1) (by omega) (by omega) (isE_fr hI2 (fun a h0 h1 => hfl.2 a (by omega))) ⟨by rw [hfl.1]; exact hF.1, fun a ha => by rw [hfl.2 a (by omega), wI_ne (by omega)]; exact hF.2 a ha⟩
theorem sX_33 {M N K : Mm} (hN : cpd M N 33 1) (h : fr 33 52 N K) : sX M K := ⟨fun a ha => by rw [h.2 a (by omega), hN.2.1 a (by omega)], by rw [h.2 61 (by omega), hN.2.1 61 (by omega)], fun a _ => by rw [h.1, hN.1]⟩
theorem L_nfM {post : Option AV → Mm → Prop} (E : Ev) (M : Mm) (hg : s_ok E) (x nd : Int) (h0 : 0 ≤ x) (hxP : x < E.1 0 2) (hq : ∀ K : Mm, fr 115 119 M K → (∃ t, isM K 84 (upr E 1 1 t)) → post (some (.inl (s_nf E x.toNat 5).1)) (en_wI K 115 1 nd)) : ∀ (n : Nat) (i : Nat) (K : Mm) (t : Int) (b : Int) (m : Int), (i + n = 5) → (1 ≤ t ∧ t ≤ 5) → (isM K 84 (upr E 1 1 t)) → (fr 115 119 M K) → ((i = 0 ∧ b = 0 ∧ m = 0) ∨ (1 ≤ i ∧ 1 ≤ b ∧ b = (s_nf E x.toNat i).1 ∧ m = (s_nf E x.toNat i).2)) → en_AW 9 0 212 post 30 [some (.inr (.inr (1, 6, 84))), some (.inl x), some (.inl nd), some (.inl b), some (.inl m), some (.inl (((i : Nat) : Int) + 1)), none, none] [] K 0 := by
  intro n
  induction n with
  | zero =>
    intro i K t b m hi ht hJ hF hbm
    refine aw_212_30 ?_
    refine br_gt_y (a := ((i : Nat) : Int) + 1) (b := 5) (by omega) (by omega) (by omega) ?_
    refine aw_212_99 ?_
    refine ⟨1, rfl, (show 1 < 8 by omega), ?_⟩
    have e : b = (s_nf E x.toNat 5).1 := by
      rcases hbm with z | z
      · omega
      · rw [show (5 : Nat) = i by omega]; exact z.2.2.1
    rw [e]
    exact hq K hF ⟨t, hJ⟩
  | succ n ih =>
    intro i K t b m hi ht hJ hF hbm
    obtain ⟨n0, n1, n2, a0, a1, a2, a3, a4, a5, a6, a7⟩ := hg.1
    have nb := nf_b hg (p := x.toNat) (by omega) i (by omega)
    have exx : ((x.toNat : Nat) : Int) = x := by omega
    have n0 : i = 0 → (s_nf E x.toNat i).1 = -1 := fun z => by subst z; rfl
    refine aw_212_30 ?_
    refine br_gt_n (a := ((i : Nat) : Int) + 1) (b := 5) (by omega) (by omega) (by omega) ?_
    refine ⟨1, rfl, (show 1 < 8 by omega), ?_⟩
    have hJ2 : isM (en_wI K 115 1 ((i : Int) + 1)) 84 (upr E 1 1 ((i : Int) + 1)) := by
      have z := isM_w hJ (a := 115) (r := 1) (by decide) 1 ((i : Int) + 1)
      rw [upr_upr] at z
      exact z
    have hg2 := ok_need hg (v := (i : Int) + 1) (by omega)
    refine ⟨6, 0, by first | decide | omega, by first | decide | omega, en_Ct_mono (R_mostBut 84 (upr E 1 1 ((i : Int) + 1)) (en_wI K 115 1 (((i : Nat) : Int) + 1)) hJ2 hg2 x (by omega)) ?_⟩
    rintro _ K2 ⟨rfl, hf, hK⟩
    have hJ3 := isM_k hJ2 hf
    have hb := s_ld_b (o := x) hg2 (E.1 0 2).toNat (ok_pp hg)
    refine ⟨3, 0, by first | decide | omega, by first | decide | omega, en_Ct_eq (V_pointsOf (b := 84) (E := upr E 1 1 ((i : Int) + 1)) (M := K2) hJ3 hK hg2 (x := x) (by omega) (by exact (show x < E.1 0 2 by omega))) ?_⟩
    have pb3 := pts_b (E := upr E 1 1 ((i : Int) + 1)) (p := x.toNat) (c := -1) hg2 (by omega)
    refine br_ne (a := (s_ld (upr E 1 1 ((i : Int) + 1)) x (E.1 0 2).toNat).1) (b := (-1)) (by omega) (by omega) (fun q4 => ?_) (fun q4 => ?_)
    · refine aw_212_66 ?_
      refine ⟨3, 0, by first | decide | omega, by first | decide | omega, en_Ct_eq (V_pointsOf (b := 84) (E := upr E 1 1 ((i : Int) + 1)) (M := K2) hJ3 hK hg2 (x := ((s_ld (upr E 1 1 ((i : Int) + 1)) x (E.1 0 2).toNat).1)) (by omega) (by exact (show ((s_ld (upr E 1 1 ((i : Int) + 1)) x (E.1 0 2).toNat).1) < E.1 0 2 by omega))) ?_⟩
      have pb5 := pts_b (E := upr E 1 1 ((i : Int) + 1)) (p := (((s_ld (upr E 1 1 ((i : Int) + 1)) x (E.1 0 2).toNat).1).toNat)) (c := -1) hg2 (by omega)
      refine aw_212_72 ?_
      refine br_eq (a := b) (b := 0) (by omega) (by omega) (fun q6 => ?_) (fun q6 => ?_)
      · refine aw_212_86 ?_
        refine aw_212_93 ?_
        refine en_AW_drop [true, true, true, true, true, true, false, false] ?_
        have el : s_lead (upr E 1 1 ((i : Int) + 1)) x.toNat = (pts (upr E 1 1 ((i : Int) + 1)) x.toNat (-1)) - (pts (upr E 1 1 ((i : Int) + 1)) (((s_ld (upr E 1 1 ((i : Int) + 1)) x (E.1 0 2).toNat).1).toNat) (-1)) := by
          unfold s_lead
          rw [exx]
          exact (if_neg (show ¬ (s_ld (upr E 1 1 ((i : Int) + 1)) x (E.1 0 2).toNat).1 = -1 by omega)).trans (by rfl)
        have e : s_nf E x.toNat (i + 1) = (((i : Int) + 1), s_lead (upr E 1 1 ((i : Int) + 1)) x.toNat) := if_pos (by omega)
        refine en_AW_ls (congrArg (fun z_ : Int => ([some (.inr (.inr (1, 6, 84))), some (.inl x), some (.inl nd), some (.inl (((i : Nat) : Int) + 1)), some (.inl ((pts (upr E 1 1 ((i : Int) + 1)) x.toNat (-1)) - (pts (upr E 1 1 ((i : Int) + 1)) (((s_ld (upr E 1 1 ((i : Int) + 1)) x (E.1 0 2).toNat).1).toNat) (-1)))), some (.inl z_), none, none] : AL)) (show (((i : Nat) : Int) + 1) + 1 = ((i + 1 : Nat) : Int) + 1 from by omega)) ?_
        refine ih (i + 1) _ ((i : Int) + 1) (((i : Nat) : Int) + 1) ((pts (upr E 1 1 ((i : Int) + 1)) x.toNat (-1)) - (pts (upr E 1 1 ((i : Int) + 1)) (((s_ld (upr E 1 1 ((i : Int) + 1)) x (E.1 0 2).toNat).1).toNat) (-1))) (by omega) (by omega) hJ3 ⟨by rw [hf.1]; exact hF.1, fun a ha => by rw [hf.2 a (by omega), wI_ne (by omega)]; exact hF.2 a ha⟩ (Or.inr ?_)
        rw [e]
        exact ⟨by omega, by omega, by omega, by omega⟩
      · refine br_le (a := (pts (upr E 1 1 ((i : Int) + 1)) x.toNat (-1)) - (pts (upr E 1 1 ((i : Int) + 1)) (((s_ld (upr E 1 1 ((i : Int) + 1)) x (E.1 0 2).toNat).1).toNat) (-1))) (b := m) (by omega) (by omega) (fun q7 => ?_) (fun q7 => ?_)
        · refine aw_212_93 ?_
          refine en_AW_drop [true, true, true, true, true, true, false, false] ?_
          have el : s_lead (upr E 1 1 ((i : Int) + 1)) x.toNat = (pts (upr E 1 1 ((i : Int) + 1)) x.toNat (-1)) - (pts (upr E 1 1 ((i : Int) + 1)) (((s_ld (upr E 1 1 ((i : Int) + 1)) x (E.1 0 2).toNat).1).toNat) (-1)) := by
            unfold s_lead
            rw [exx]
            exact (if_neg (show ¬ (s_ld (upr E 1 1 ((i : Int) + 1)) x (E.1 0 2).toNat).1 = -1 by omega)).trans (by rfl)
          have e : s_nf E x.toNat (i + 1) = s_nf E x.toNat i := if_neg (by omega)
          refine en_AW_ls (congrArg (fun z_ : Int => ([some (.inr (.inr (1, 6, 84))), some (.inl x), some (.inl nd), some (.inl b), some (.inl m), some (.inl z_), none, none] : AL)) (show (((i : Nat) : Int) + 1) + 1 = ((i + 1 : Nat) : Int) + 1 from by omega)) ?_
          refine ih (i + 1) _ ((i : Int) + 1) b m (by omega) (by omega) hJ3 ⟨by rw [hf.1]; exact hF.1, fun a ha => by rw [hf.2 a (by omega), wI_ne (by omega)]; exact hF.2 a ha⟩ (Or.inr ?_)
          rw [e]
          exact ⟨by omega, by omega, by omega, by omega⟩
        · refine aw_212_86 ?_
          refine aw_212_93 ?_
          refine en_AW_drop [true, true, true, true, true, true, false, false] ?_
          have el : s_lead (upr E 1 1 ((i : Int) + 1)) x.toNat = (pts (upr E 1 1 ((i : Int) + 1)) x.toNat (-1)) - (pts (upr E 1 1 ((i : Int) + 1)) (((s_ld (upr E 1 1 ((i : Int) + 1)) x (E.1 0 2).toNat).1).toNat) (-1)) := by
            unfold s_lead
            rw [exx]
            exact (if_neg (show ¬ (s_ld (upr E 1 1 ((i : Int) + 1)) x (E.1 0 2).toNat).1 = -1 by omega)).trans (by rfl)
          have e : s_nf E x.toNat (i + 1) = (((i : Int) + 1), s_lead (upr E 1 1 ((i : Int) + 1)) x.toNat) := if_pos (by omega)
          refine en_AW_ls (congrArg (fun z_ : Int => ([some (.inr (.inr (1, 6, 84))), some (.inl x), some (.inl nd), some (.inl (((i : Nat) : Int) + 1)), some (.inl ((pts (upr E 1 1 ((i : Int) + 1)) x.toNat (-1)) - (pts (upr E 1 1 ((i : Int) + 1)) (((s_ld (upr E 1 1 ((i : Int) + 1)) x (E.1 0 2).toNat).1).toNat) (-1)))), some (.inl z_), none, none] : AL)) (show (((i : Nat) : Int) + 1) + 1 = ((i + 1 : Nat) : Int) + 1 from by omega)) ?_
          refine ih (i + 1) _ ((i : Int) + 1) (((i : Nat) : Int) + 1) ((pts (upr E 1 1 ((i : Int) + 1)) x.toNat (-1)) - (pts (upr E 1 1 ((i : Int) + 1)) (((s_ld (upr E 1 1 ((i : Int) + 1)) x (E.1 0 2).toNat).1).toNat) (-1))) (by omega) (by omega) hJ3 ⟨by rw [hf.1]; exact hF.1, fun a ha => by rw [hf.2 a (by omega), wI_ne (by omega)]; exact hF.2 a ha⟩ (Or.inr ?_)
          rw [e]
          exact ⟨by omega, by omega, by omega, by omega⟩
    · refine aw_212_72 ?_
      refine br_eq (a := b) (b := 0) (by omega) (by omega) (fun q8 => ?_) (fun q8 => ?_)
      · refine aw_212_86 ?_
        refine aw_212_93 ?_
        refine en_AW_drop [true, true, true, true, true, true, false, false] ?_
        have el : s_lead (upr E 1 1 ((i : Int) + 1)) x.toNat = (pts (upr E 1 1 ((i : Int) + 1)) x.toNat (-1)) - 0 := by
          unfold s_lead
          rw [exx]
          exact (if_pos (show  (s_ld (upr E 1 1 ((i : Int) + 1)) x (E.1 0 2).toNat).1 = -1 by omega)).trans (by omega)
        have e : s_nf E x.toNat (i + 1) = (((i : Int) + 1), s_lead (upr E 1 1 ((i : Int) + 1)) x.toNat) := if_pos (by omega)
        refine en_AW_ls (congrArg (fun z_ : Int => ([some (.inr (.inr (1, 6, 84))), some (.inl x), some (.inl nd), some (.inl (((i : Nat) : Int) + 1)), some (.inl ((pts (upr E 1 1 ((i : Int) + 1)) x.toNat (-1)) - 0)), some (.inl z_), none, none] : AL)) (show (((i : Nat) : Int) + 1) + 1 = ((i + 1 : Nat) : Int) + 1 from by omega)) ?_
        refine ih (i + 1) _ ((i : Int) + 1) (((i : Nat) : Int) + 1) ((pts (upr E 1 1 ((i : Int) + 1)) x.toNat (-1)) - 0) (by omega) (by omega) hJ3 ⟨by rw [hf.1]; exact hF.1, fun a ha => by rw [hf.2 a (by omega), wI_ne (by omega)]; exact hF.2 a ha⟩ (Or.inr ?_)
        rw [e]
        exact ⟨by omega, by omega, by omega, by omega⟩
      · refine br_le (a := (pts (upr E 1 1 ((i : Int) + 1)) x.toNat (-1)) - 0) (b := m) (by omega) (by omega) (fun q9 => ?_) (fun q9 => ?_)
        · refine aw_212_93 ?_
          refine en_AW_drop [true, true, true, true, true, true, false, false] ?_
          have el : s_lead (upr E 1 1 ((i : Int) + 1)) x.toNat = (pts (upr E 1 1 ((i : Int) + 1)) x.toNat (-1)) - 0 := by
            unfold s_lead
            rw [exx]
            exact (if_pos (show  (s_ld (upr E 1 1 ((i : Int) + 1)) x (E.1 0 2).toNat).1 = -1 by omega)).trans (by omega)
          have e : s_nf E x.toNat (i + 1) = s_nf E x.toNat i := if_neg (by omega)
          refine en_AW_ls (congrArg (fun z_ : Int => ([some (.inr (.inr (1, 6, 84))), some (.inl x), some (.inl nd), some (.inl b), some (.inl m), some (.inl z_), none, none] : AL)) (show (((i : Nat) : Int) + 1) + 1 = ((i + 1 : Nat) : Int) + 1 from by omega)) ?_
          refine ih (i + 1) _ ((i : Int) + 1) b m (by omega) (by omega) hJ3 ⟨by rw [hf.1]; exact hF.1, fun a ha => by rw [hf.2 a (by omega), wI_ne (by omega)]; exact hF.2 a ha⟩ (Or.inr ?_)
          rw [e]
          exact ⟨by omega, by omega, by omega, by omega⟩
        · refine aw_212_86 ?_
          refine aw_212_93 ?_
          refine en_AW_drop [true, true, true, true, true, true, false, false] ?_
          have el : s_lead (upr E 1 1 ((i : Int) + 1)) x.toNat = (pts (upr E 1 1 ((i : Int) + 1)) x.toNat (-1)) - 0 := by
            unfold s_lead
            rw [exx]
            exact (if_pos (show  (s_ld (upr E 1 1 ((i : Int) + 1)) x (E.1 0 2).toNat).1 = -1 by omega)).trans (by omega)
          have e : s_nf E x.toNat (i + 1) = (((i : Int) + 1), s_lead (upr E 1 1 ((i : Int) + 1)) x.toNat) := if_pos (by omega)
          refine en_AW_ls (congrArg (fun z_ : Int => ([some (.inr (.inr (1, 6, 84))), some (.inl x), some (.inl nd), some (.inl (((i : Nat) : Int) + 1)), some (.inl ((pts (upr E 1 1 ((i : Int) + 1)) x.toNat (-1)) - 0)), some (.inl z_), none, none] : AL)) (show (((i : Nat) : Int) + 1) + 1 = ((i + 1 : Nat) : Int) + 1 from by omega)) ?_
          refine ih (i + 1) _ ((i : Int) + 1) (((i : Nat) : Int) + 1) ((pts (upr E 1 1 ((i : Int) + 1)) x.toNat (-1)) - 0) (by omega) (by omega) hJ3 ⟨by rw [hf.1]; exact hF.1, fun a ha => by rw [hf.2 a (by omega), wI_ne (by omega)]; exact hF.2 a ha⟩ (Or.inr ?_)
          rw [e]
          exact ⟨by omega, by omega, by omega, by omega⟩
def a_needFor (E : Ev) (x : Int) : Nat × Int := if 0 ≤ x ∧ x < E.1 0 2 then (0, (s_nf E x.toNat 5).1) else (1, -2)
theorem PX_needFor (E : Ev) (M : Mm) (hI : isE M 1 E) (hg : s_ok E) (x : Int) (hx : -2147483648 ≤ x ∧ x < 2147483648) : en_Ct 9 0 107 [.inr (.inr (1, 5, 0)), .inl x] M (fun r M' => r = some (.inl (a_needFor E x).2) ∧ sX (aX M (a_needFor E x).1) M') := by
  obtain ⟨n0, n1, n2, a0, a1, a2, a3, a4, a5, a6, a7⟩ := hg.1
  have r0 : M.1 1 0 = E.1 0 0 := r0_I hI 0
  have r1 : M.1 1 1 = E.1 0 1 := r0_I hI 1
  have r2 : M.1 1 2 = E.1 0 2 := r0_I hI 2
  refine ct_107 rfl ?_
  refine aw_107_0 ?_
  by_cases c1 : 0 ≤ x ∧ x < E.1 0 2
  · refine ⟨2, 0, by first | decide | omega, by first | decide | omega, en_Ct_t (X_isPerson (M := M) (e := 1) (E := E) hI hg (x := x) (by omega)) c1 ?_⟩
    refine br_ne_y (by decide) (by decide) (by decide) ?_
    refine aw_107_18 ?_
    refine ⟨1, 0, by first | decide | omega, by first | decide | omega, en_Ct_mono (R_be_33_1 M (fun i hi => by rw [show M.1 9 = E.1 8 from hI.1 8 (by decide)]; exact hg.2.2.2.2 i hi)) ?_⟩
    rintro _ N ⟨rfl, hN⟩
    obtain ⟨hev, hg3, hIN⟩ := th_ev hI hg hN
    refine ⟨1, rfl, (show 1 < 8 by omega), ?_⟩
    have eP := hev.1 2 (by decide)
    refine L_nfX (vE N 33) N hg3 x (by omega) (by omega) (fun K hK => ?_) 5 0 N ((vE N 33).1 1 1) (by omega) hg3.1.2.2.2.2.1 (by rw [upr_self rfl]; exact isE_self) fr_rfl
    have ha : a_needFor E x = (0, (s_nf (vE N 33) x.toNat 5).1) := by
      unfold a_needFor
      rw [if_pos (by omega), ev_nf hev hg3 (by omega) 5 (by omega)]
    rw [ha]
    exact ⟨rfl, sX_33 hN hK⟩
  · refine ⟨2, 0, by first | decide | omega, by first | decide | omega, en_Ct_f (X_isPerson (M := M) (e := 1) (E := E) hI hg (x := x) (by omega)) c1 ?_⟩
    refine br_ne_n (by decide) (by decide) (by decide) ?_
    refine ⟨2, 0, by first | decide | omega, by first | decide | omega, en_Ct_eq (R_refX (-2) (by omega) M) ?_⟩
    have ha : a_needFor E x = (1, (-2)) := by
      unfold a_needFor
      repeat first | rw [if_pos (by omega)] | rw [if_neg (by omega)]
      first | done | rfl | (rfl)
    rw [ha]
    exact ⟨rfl, sX_rfl⟩
theorem PM_needFor (E : Ev) (M : Mm) (hJ : isM M 84 E) (hg : s_ok E) (x : Int) (hx : -2147483648 ≤ x ∧ x < 2147483648) : en_Ct 9 0 212 [.inr (.inr (1, 6, 84)), .inl x] M (fun r M' => r = some (.inl (a_needFor E x).2) ∧ sM (aM M (a_needFor E x).1) M') := by
  obtain ⟨n0, n1, n2, a0, a1, a2, a3, a4, a5, a6, a7⟩ := hg.1
  have r0 : M.1 84 9 = E.1 0 0 := hJ.1.1
  have r1 : M.1 84 10 = E.1 0 1 := hJ.1.2.1
  have r2 : M.1 84 18 = E.1 0 2 := hJ.1.2.2.1
  refine ct_212 rfl ?_
  refine aw_212_0 ?_
  by_cases c1 : 0 ≤ x ∧ x < E.1 0 2
  · refine ⟨2, 0, by first | decide | omega, by first | decide | omega, en_Ct_t (M_isPerson (M := M) (E := E) hJ hg (x := x) (by omega)) c1 ?_⟩
    refine br_ne_y (by decide) (by decide) (by decide) ?_
    refine aw_212_15 ?_
    refine ⟨1, rfl, (show 1 < 8 by omega), ?_⟩
    refine L_nfM E M hg x (M.1 115 1) (by omega) (by omega) (fun K hK hKt => ?_) 5 0 M (E.1 1 1) 0 0 (by omega) a1 (by rw [upr_self rfl]; exact hJ) fr_rfl (Or.inl ⟨rfl, rfl, rfl⟩)
    have ha : a_needFor E x = (0, (s_nf E x.toNat 5).1) := by
      unfold a_needFor
      rw [if_pos (by omega)]
    rw [ha]
    obtain ⟨t, hKt⟩ := hKt
    have e1 : M.1 115 1 = E.1 1 1 := congrFun hJ.2.1.1 1
    have hJ' : isM (en_wI K 115 1 (M.1 115 1)) 84 E := by
      have z := isM_w hKt (a := 115) (r := 1) (by decide) 1 (M.1 115 1)
      rw [upr_upr, e1, upr_self rfl] at z
      rw [e1]
      exact z
    refine ⟨rfl, ⟨fun a ha => ?_, fun j hj => ?_, fun a _ => ?_⟩⟩
    · by_cases h : a = 115
      · subst h
        show (en_wI K 115 1 (M.1 115 1)).1 (84 + 31) = M.1 (84 + 31)
        rw [hJ'.2.1.1, hJ.2.1.1]
      · rw [wI_ne h, hK.2 a (by omega)]
        rfl
    · rw [wI_ne (by decide), hK.2 84 (by decide)]
      rfl
    · show K.2 a = M.2 a
      rw [hK.1]
  · refine ⟨2, 0, by first | decide | omega, by first | decide | omega, en_Ct_f (M_isPerson (M := M) (E := E) hJ hg (x := x) (by omega)) c1 ?_⟩
    refine br_ne_n (by decide) (by decide) (by decide) ?_
    refine ⟨1, 0, by first | decide | omega, by first | decide | omega, en_Ct_eq (R_refM (-2) (by omega) M) ?_⟩
    have ha : a_needFor E x = (1, (-2)) := by
      unfold a_needFor
      repeat first | rw [if_pos (by omega)] | rw [if_neg (by omega)]
      first | done | rfl | (rfl)
    rw [ha]
    exact ⟨rfl, sM_rfl⟩
theorem ea_needFor {E F : Ev} (h : evs E F) (hg : s_ok E) {x : Int} : a_needFor E x = a_needFor F x := by
  have hb := hg.1.2.2.1
  have hw := hg.1.2.1
  unfold a_needFor
  rw [← h.1 2 (by decide)]
  split
  · rw [ev_nf h hg (by omega) 5 (by omega)]
  · rfl
theorem S_needFor {x : Int} (hx : -2147483648 ≤ x ∧ x < 2147483648) : sameC 107 212 [.inl x] := same_ro (f := fun E => a_needFor E x) (by decide) (by decide) (fun E M h1 h2 => PX_needFor E M h1 h2 x hx) (fun E M h1 h2 => PM_needFor E M h1 h2 x hx) (fun E F h1 h2 => ea_needFor h1 h2) (fun E => by show (a_needFor E x).1 ≤ 5; unfold a_needFor; (repeat' split) <;> exact Nat.le_of_ble_eq_true rfl)
