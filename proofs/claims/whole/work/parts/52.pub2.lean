theorem L_keptBy {post : Option AV → Mm → Prop} (E : Ev) (K : Mm) (hJ : isM K 84 E) (hK : isK K 84 E) (hg : s_ok E) (w : Nat) (hw : w < 24) (hq : post (some (.inl ((s_kb E w (E.1 0 2).toNat : Nat) : Int))) K) : ∀ (n : Nat) (i : Nat), (((i : Nat) : Int) + ((n : Nat) : Int) = E.1 0 2) → en_AW 9 0 208 post 23 [some (.inr (.inr (1, 6, 84))), some (.inl ((w : Nat) : Int)), some (.inl ((s_kb E w i : Nat) : Int)), some (.inl ((i : Nat) : Int))] [] K 0 := by
  intro n
  induction n with
  | zero =>
    intro i hi
    obtain ⟨n0, n1, n2, a0, a1, a2, a3, a4, a5, a6, a7⟩ := hg.1
    have r0 : K.1 84 9 = E.1 0 0 := hJ.1.1
    have r1 : K.1 84 10 = E.1 0 1 := hJ.1.2.1
    have r2 : K.1 84 18 = E.1 0 2 := hJ.1.2.2.1
    refine aw_208_23 ?_
    refine br_ge_y (a := ((i : Nat) : Int)) (b := K.1 84 18) (by omega) (by omega) (by omega) ?_
    refine aw_208_52 ?_
    rw [show (E.1 0 2).toNat = i by omega] at hq
    exact hq
  | succ n ih =>
    intro i hi
    obtain ⟨n0, n1, n2, a0, a1, a2, a3, a4, a5, a6, a7⟩ := hg.1
    have r0 : K.1 84 9 = E.1 0 0 := hJ.1.1
    have r1 : K.1 84 10 = E.1 0 1 := hJ.1.2.1
    have r2 : K.1 84 18 = E.1 0 2 := hJ.1.2.2.1
    have hb := s_kb_b (w := w) hg (n := i) (by omega)
    refine aw_208_23 ?_
    refine br_ge_n (a := ((i : Nat) : Int)) (b := K.1 84 18) (by omega) (by omega) (by omega) ?_
    refine ⟨i, rfl, (show i < 4 by omega), ?_⟩
    refine en_AW_ls (congrArg (fun z_ : Int => ([some (.inr (.inr (1, 6, 84))), some (.inl ((w : Nat) : Int)), some (.inl z_), some (.inl (((i : Nat) : Int) + 1))] : AL)) (show en_or ((s_kb E w i : Nat) : Int) (en_shl (en_and (en_shr (K.1 118 i) ((w : Nat) : Int)) 1) ((i : Nat) : Int)) = ((s_kb E w (i + 1) : Nat) : Int) from by rw [show K.1 118 i = ((kpw E i : Nat) : Int) from hK i (by omega)]; exact nu_keepbit (Nat.lt_trans (kpw_lt hg i) (by decide)) (by omega) hb (by omega))) ?_
    exact ih (i + 1) (by omega)
def a_keptBy (E : Ev) (x : Int) : Nat × Int := if 0 ≤ x ∧ x < E.1 0 1 then (0, ((s_kb E x.toNat (E.1 0 2).toNat : Nat) : Int)) else (1, -2)
theorem PX_keptBy (E : Ev) (M : Mm) (hI : isE M 1 E) (hg : s_ok E) (x : Int) (hx : -2147483648 ≤ x ∧ x < 2147483648) : en_Ct 9 0 105 [.inr (.inr (1, 5, 0)), .inl x] M (fun r M' => r = some (.inl (a_keptBy E x).2) ∧ sX (aX M (a_keptBy E x).1) M') := by
  obtain ⟨n0, n1, n2, a0, a1, a2, a3, a4, a5, a6, a7⟩ := hg.1
  have r0 : M.1 1 0 = E.1 0 0 := r0_I hI 0
  have r1 : M.1 1 1 = E.1 0 1 := r0_I hI 1
  have r2 : M.1 1 2 = E.1 0 2 := r0_I hI 2
  refine ct_105 rfl ?_
  refine aw_105_0 ?_
  by_cases c1 : 0 ≤ x ∧ x < E.1 0 1
  · refine ⟨2, 0, by first | decide | omega, by first | decide | omega, en_Ct_t (X_isWord (M := M) (e := 1) (E := E) hI hg (x := x) (by omega)) c1 ?_⟩
    refine br_ne_y (by decide) (by decide) (by decide) ?_
    refine aw_105_18 ?_
    refine ⟨4, 0, by first | decide | omega, by first | decide | omega, en_Ct_mono (R_reckon 1 E M hI hg (by omega)) ?_⟩
    rintro _ K3 ⟨rfl, hf, hO⟩
    replace hI := isE_o hI hf (Or.inl (by omega))
    refine ⟨1, 0, by first | decide | omega, by first | decide | omega, en_Ct_eq (X_kb (M := K3) (e := 1) (E := E) hI hO hg (x := x) (by omega) (by omega)) ?_⟩
    have kb5 := s_kb_b (E := E) (w := x.toNat) hg (n := (E.1 0 2).toNat) (by omega)
    have ha : a_keptBy E x = (0, ((s_kb E x.toNat (E.1 0 2).toNat : Nat) : Int)) := by
      unfold a_keptBy
      repeat first | rw [if_pos (by omega)] | rw [if_neg (by omega)]
      first | done | rfl | (rfl)
    rw [ha]
    exact ⟨rfl, sX_fr hf (by decide) (by decide)⟩
  · refine ⟨2, 0, by first | decide | omega, by first | decide | omega, en_Ct_f (X_isWord (M := M) (e := 1) (E := E) hI hg (x := x) (by omega)) c1 ?_⟩
    refine br_ne_n (by decide) (by decide) (by decide) ?_
    refine ⟨2, 0, by first | decide | omega, by first | decide | omega, en_Ct_eq (R_refX (-2) (by omega) M) ?_⟩
    have ha : a_keptBy E x = (1, (-2)) := by
      unfold a_keptBy
      repeat first | rw [if_pos (by omega)] | rw [if_neg (by omega)]
      first | done | rfl | (rfl)
    rw [ha]
    exact ⟨rfl, sX_rfl⟩
theorem PM_keptBy (E : Ev) (M : Mm) (hJ : isM M 84 E) (hg : s_ok E) (x : Int) (hx : -2147483648 ≤ x ∧ x < 2147483648) : en_Ct 9 0 208 [.inr (.inr (1, 6, 84)), .inl x] M (fun r M' => r = some (.inl (a_keptBy E x).2) ∧ sM (aM M (a_keptBy E x).1) M') := by
  obtain ⟨n0, n1, n2, a0, a1, a2, a3, a4, a5, a6, a7⟩ := hg.1
  have r0 : M.1 84 9 = E.1 0 0 := hJ.1.1
  have r1 : M.1 84 10 = E.1 0 1 := hJ.1.2.1
  have r2 : M.1 84 18 = E.1 0 2 := hJ.1.2.2.1
  refine ct_208 rfl ?_
  refine aw_208_0 ?_
  by_cases c1 : 0 ≤ x ∧ x < E.1 0 1
  · refine ⟨2, 0, by first | decide | omega, by first | decide | omega, en_Ct_t (M_isWord (M := M) (E := E) hJ hg (x := x) (by omega)) c1 ?_⟩
    refine br_ne_y (by decide) (by decide) (by decide) ?_
    refine aw_208_15 ?_
    refine ⟨5, 0, by first | decide | omega, by first | decide | omega, en_Ct_mono (R_findKept 84 E M hJ hg) ?_⟩
    rintro _ K3 ⟨rfl, hf, hK⟩
    replace hJ := isM_k hJ hf
    obtain ⟨w, rfl⟩ := Int.eq_ofNat_of_zero_le (show 0 ≤ x by omega)
    refine L_keptBy E K3 hJ hK hg w (by omega) ?_ (E.1 0 2).toNat 0 (by omega)
    have ha : a_keptBy E ((w : Nat) : Int) = (0, ((s_kb E w (E.1 0 2).toNat : Nat) : Int)) := by
      unfold a_keptBy
      repeat first | rw [if_pos (by omega)] | rw [if_neg (by omega)]
      first | done | rfl | (rfl)
    rw [ha]
    exact ⟨rfl, sM_fr hf (by decide) (by decide)⟩
  · refine ⟨2, 0, by first | decide | omega, by first | decide | omega, en_Ct_f (M_isWord (M := M) (E := E) hJ hg (x := x) (by omega)) c1 ?_⟩
    refine br_ne_n (by decide) (by decide) (by decide) ?_
    refine ⟨1, 0, by first | decide | omega, by first | decide | omega, en_Ct_eq (R_refM (-2) (by omega) M) ?_⟩
    have ha : a_keptBy E x = (1, (-2)) := by
      unfold a_keptBy
      repeat first | rw [if_pos (by omega)] | rw [if_neg (by omega)]
      first | done | rfl | (rfl)
    rw [ha]
    exact ⟨rfl, sM_rfl⟩
theorem ea_keptBy {E F : Ev} (h : evs E F) (hg : s_ok E) {x : Int} : a_keptBy E x = a_keptBy F x := by
  have hb := hg.1.2.2.1
  have hw := hg.1.2.1
  unfold a_keptBy
  rw [← h.1 1 (by decide), ← ev_pp h, ev_kb h hg _ (ok_pp hg)]
theorem L_late {post : Option AV → Mm → Prop} (E : Ev) (M : Mm) (hJ : isM M 84 E) (hg : s_ok E) (p : Nat) (hp : p < 4) : ∀ (n : Nat) (i : Nat) (t : Int), (((i : Nat) : Int) + ((n : Nat) : Int) = E.1 14 p) → (0 ≤ t) → (t ≤ 74 * ((i : Nat) : Int)) → (en_AW 9 0 211 post 70 [some (.inr (.inr (1, 6, 84))), some (.inl ((p : Nat) : Int)), some (.inl (s_tot (s_can E p) (s_cost E) (shl (M.1 (109 + 1 * p)) i n) t)), none] [] M 0) → en_AW 9 0 211 post 19 [some (.inr (.inr (1, 6, 84))), some (.inl ((p : Nat) : Int)), some (.inl t), some (.inl ((i : Nat) : Int))] [] M 0 := by
  intro n
  induction n with
  | zero =>
    intro i t hi ht0 ht1 hx
    obtain ⟨n0, n1, n2, a0, a1, a2, a3, a4, a5, a6, a7⟩ := hg.1
    have r0 : M.1 84 9 = E.1 0 0 := hJ.1.1
    have r1 : M.1 84 10 = E.1 0 1 := hJ.1.2.1
    have r2 : M.1 84 18 = E.1 0 2 := hJ.1.2.2.1
    have e14 : M.1 113 p = E.1 14 p := congrFun hJ.2.1.2.1 p
    obtain ⟨s1, s2⟩ := hg.2.2.1 p hp
    refine aw_211_19 ?_
    refine ⟨p, rfl, (show p < 4 by omega), ?_⟩
    refine br_ge_y (a := ((i : Nat) : Int)) (b := M.1 113 p) (by omega) (by omega) (by omega) ?_
    refine en_AW_drop [true, true, true, false] ?_
    exact hx
  | succ n ih =>
    intro i t hi ht0 ht1 hx
    obtain ⟨n0, n1, n2, a0, a1, a2, a3, a4, a5, a6, a7⟩ := hg.1
    have r0 : M.1 84 9 = E.1 0 0 := hJ.1.1
    have r1 : M.1 84 10 = E.1 0 1 := hJ.1.2.1
    have r2 : M.1 84 18 = E.1 0 2 := hJ.1.2.2.1
    have e14 : M.1 113 p = E.1 14 p := congrFun hJ.2.1.2.1 p
    obtain ⟨s1, s2⟩ := hg.2.2.1 p hp
    obtain ⟨x0, x1⟩ := s2 i (by omega)
    rw [← show M.1 (109 + 1 * p) = E.2 p from hJ.2.2 p hp] at x0 x1
    refine aw_211_19 ?_
    refine ⟨p, rfl, (show p < 4 by omega), ?_⟩
    refine br_ge_n (a := ((i : Nat) : Int)) (b := M.1 113 p) (by omega) (by omega) (by omega) ?_
    refine ⟨p, rfl, (show p < 4 by omega), ?_⟩
    refine ⟨i, rfl, (show i < 5 by omega), ?_⟩
    by_cases c2 : s_can E p ((M.1 (109 + 1 * p) i).toNat) = true
    · refine ⟨1, 0, by first | decide | omega, by first | decide | omega, en_Ct_t (V_can (b := 84) (E := E) (M := M) hJ hg (p := p) (x := (M.1 (109 + 1 * p) i)) (by omega) (by omega) (by omega)) c2 ?_⟩
      refine br_eq_n (by decide) (by decide) (by decide) ?_
      refine ⟨p, rfl, (show p < 4 by omega), ?_⟩
      refine ⟨i, rfl, (show i < 5 by omega), ?_⟩
      refine ⟨1, 0, by first | decide | omega, by first | decide | omega, en_Ct_eq (V_cost (b := 84) (E := E) (M := M) hJ hg (x := (M.1 (109 + 1 * p) i)) (by omega) (by omega)) ?_⟩
      have cb4 := s_cost_b (hg.2.1 ((M.1 (109 + 1 * p) i).toNat) (by omega))
      refine aw_211_62 ?_
      exact ih (i + 1) (t + (s_cost E ((M.1 (109 + 1 * p) i).toNat))) (by omega) (by omega) (by omega) (by clear ih s2; simp only [shl, s_tot] at hx; grind)
    · refine ⟨1, 0, by first | decide | omega, by first | decide | omega, en_Ct_f (V_can (b := 84) (E := E) (M := M) hJ hg (p := p) (x := (M.1 (109 + 1 * p) i)) (by omega) (by omega) (by omega)) c2 ?_⟩
      refine br_eq_y (by decide) (by decide) (by decide) ?_
      refine aw_211_61 ?_
      refine aw_211_62 ?_
      refine en_AW_ls (congrArg (fun z_ : Int => ([some (.inr (.inr (1, 6, 84))), some (.inl ((p : Nat) : Int)), some (.inl z_), some (.inl (((i : Nat) : Int) + 1))] : AL)) (show t + 0 = t from Int.add_zero t)) ?_
      exact ih (i + 1) t (by omega) (by omega) (by omega) (by clear ih s2; simp only [shl, s_tot] at hx; grind)
def a_late (E : Ev) (x : Int) : Nat × Int := if 0 ≤ x ∧ x < E.1 0 2 then (0, if 0 < s_tot (s_can E x.toNat) (s_cost E) (s_shl E x.toNat) 0 - s_call E then s_tot (s_can E x.toNat) (s_cost E) (s_shl E x.toNat) 0 - s_call E else 0) else (1, -2)
theorem PX_late (E : Ev) (M : Mm) (hI : isE M 1 E) (hg : s_ok E) (x : Int) (hx : -2147483648 ≤ x ∧ x < 2147483648) : en_Ct 9 0 108 [.inr (.inr (1, 5, 0)), .inl x] M (fun r M' => r = some (.inl (a_late E x).2) ∧ sX (aX M (a_late E x).1) M') := by
  obtain ⟨n0, n1, n2, a0, a1, a2, a3, a4, a5, a6, a7⟩ := hg.1
  have r0 : M.1 1 0 = E.1 0 0 := r0_I hI 0
  have r1 : M.1 1 1 = E.1 0 1 := r0_I hI 1
  have r2 : M.1 1 2 = E.1 0 2 := r0_I hI 2
  refine ct_108 rfl ?_
  refine aw_108_0 ?_
  by_cases c1 : 0 ≤ x ∧ x < E.1 0 2
  · refine ⟨2, 0, by first | decide | omega, by first | decide | omega, en_Ct_t (X_isPerson (M := M) (e := 1) (E := E) hI hg (x := x) (by omega)) c1 ?_⟩
    refine br_ne_y (by decide) (by decide) (by decide) ?_
    refine aw_108_18 ?_
    refine ⟨4, 0, by first | decide | omega, by first | decide | omega, en_Ct_mono (R_reckon 1 E M hI hg (by omega)) ?_⟩
    rintro _ K3 ⟨rfl, hf, hO⟩
    replace hI := isE_o hI hf (Or.inl (by omega))
    refine ⟨3, 0, by first | decide | omega, by first | decide | omega, en_Ct_eq (X_tot (M := K3) (e := 1) (E := E) hI hg (x := x) (by omega) (by omega)) ?_⟩
    have tb5 := tot_b (p := x.toNat) hg (by omega)
    have ha : a_late E x = (0, if en_wr 0 < en_wr ((s_tot (s_can E x.toNat) (s_cost E) (s_shl E x.toNat) 0) - (K3.1 49 0)) then (s_tot (s_can E x.toNat) (s_cost E) (s_shl E x.toNat) 0) - (K3.1 49 0) else 0) := by
      unfold a_late
      repeat first | rw [if_pos (by omega)] | rw [if_neg (by omega)]
      first | done | rfl | (rw [hO.1]; have cb := call_b hg; rw [en_wr_of ⟨by decide, by decide⟩, en_wr_of ⟨by omega, by omega⟩])
    rw [ha]
    exact ⟨rfl, sX_fr hf (by decide) (by decide)⟩
  · refine ⟨2, 0, by first | decide | omega, by first | decide | omega, en_Ct_f (X_isPerson (M := M) (e := 1) (E := E) hI hg (x := x) (by omega)) c1 ?_⟩
    refine br_ne_n (by decide) (by decide) (by decide) ?_
    refine ⟨2, 0, by first | decide | omega, by first | decide | omega, en_Ct_eq (R_refX (-2) (by omega) M) ?_⟩
    have ha : a_late E x = (1, (-2)) := by
      unfold a_late
      repeat first | rw [if_pos (by omega)] | rw [if_neg (by omega)]
      first | done | rfl | (rw [hO.1]; have cb := call_b hg; rw [en_wr_of ⟨by decide, by decide⟩, en_wr_of ⟨by omega, by omega⟩])
    rw [ha]
    exact ⟨rfl, sX_rfl⟩
theorem PM_late (E : Ev) (M : Mm) (hJ : isM M 84 E) (hg : s_ok E) (x : Int) (hx : -2147483648 ≤ x ∧ x < 2147483648) : en_Ct 9 0 211 [.inr (.inr (1, 6, 84)), .inl x] M (fun r M' => r = some (.inl (a_late E x).2) ∧ sM (aM M (a_late E x).1) M') := by
  obtain ⟨n0, n1, n2, a0, a1, a2, a3, a4, a5, a6, a7⟩ := hg.1
  have r0 : M.1 84 9 = E.1 0 0 := hJ.1.1
  have r1 : M.1 84 10 = E.1 0 1 := hJ.1.2.1
  have r2 : M.1 84 18 = E.1 0 2 := hJ.1.2.2.1
  refine ct_211 rfl ?_
  refine aw_211_0 ?_
  by_cases c1 : 0 ≤ x ∧ x < E.1 0 2
  · refine ⟨2, 0, by first | decide | omega, by first | decide | omega, en_Ct_t (M_isPerson (M := M) (E := E) hJ hg (x := x) (by omega)) c1 ?_⟩
    refine br_ne_y (by decide) (by decide) (by decide) ?_
    refine aw_211_15 ?_
    obtain ⟨p, rfl⟩ := Int.eq_ofNat_of_zero_le (show 0 ≤ x by omega)
    have s1 := (hg.2.2.1 p (by omega)).1
    have tb := tot_b hg (p := p) (by omega)
    refine L_late E M hJ hg p (by omega) (E.1 14 p).toNat 0 0 (by omega) (by omega) (by omega) ?_
    rw [show shl (M.1 (109 + 1 * p)) 0 (E.1 14 p).toNat = s_shl E p by rw [show M.1 (109 + 1 * p) = E.2 p from hJ.2.2 p (by omega)]; rfl]
    refine aw_211_70 ?_
    refine ⟨3, 0, by first | decide | omega, by first | decide | omega, en_Ct_eq (R_callNow 84 E M hJ hg) ?_⟩
    have kb1 := call_b hg
    refine br_le (a := (s_tot (s_can E p) (s_cost E) (s_shl E p) 0) - (s_call E)) (b := 0) (by omega) (by omega) (fun q2 => ?_) (fun q2 => ?_)
    · refine aw_211_85 ?_
      refine aw_211_86 ?_
      have ha : a_late E ((p : Nat) : Int) = (0, 0) := by
        unfold a_late
        repeat first | rw [if_pos (by omega)] | rw [if_neg (by omega)]
        first | done | rfl | (rw [Int.toNat_natCast]; repeat first | rw [if_pos (by omega)] | rw [if_neg (by omega)])
      rw [ha]
      exact ⟨rfl, sM_rfl⟩
    · refine aw_211_86 ?_
      have ha : a_late E ((p : Nat) : Int) = (0, (s_tot (s_can E p) (s_cost E) (s_shl E p) 0) - (s_call E)) := by
        unfold a_late
        repeat first | rw [if_pos (by omega)] | rw [if_neg (by omega)]
        first | done | rfl | (rw [Int.toNat_natCast]; repeat first | rw [if_pos (by omega)] | rw [if_neg (by omega)])
      rw [ha]
      exact ⟨rfl, sM_rfl⟩
  · refine ⟨2, 0, by first | decide | omega, by first | decide | omega, en_Ct_f (M_isPerson (M := M) (E := E) hJ hg (x := x) (by omega)) c1 ?_⟩
    refine br_ne_n (by decide) (by decide) (by decide) ?_
    refine ⟨1, 0, by first | decide | omega, by first | decide | omega, en_Ct_eq (R_refM (-2) (by omega) M) ?_⟩
    have ha : a_late E x = (1, (-2)) := by
      unfold a_late
      repeat first | rw [if_pos (by omega)] | rw [if_neg (by omega)]
      first | done | rfl | (rfl)
    rw [ha]
    exact ⟨rfl, sM_rfl⟩
theorem ea_late {E F : Ev} (h : evs E F) (hg : s_ok E) {x : Int} : a_late E x = a_late F x := by
  have hb := hg.1.2.2.1
  have hw := hg.1.2.1
  unfold a_late
  rw [← h.1 2 (by decide)]
  split
  · rw [ev_tot h hg (by omega), ev_call h hg]
  · rfl
theorem cf_t {E : Ev} {p n : Nat} {l : Int} (h1 : E.1 3 n = l) (h2 : s_kn E p n = true) (h3 : ¬ s_bar E n = true) : s_cf E p l (n + 1) = s_cf E p l n ||| 2 ^ (E.1 4 n).toNat := by
  rw [s_cf, if_pos (by simp [h1, h2, h3])]
theorem cf_f {E : Ev} {p n : Nat} {l : Int} (h : ¬ (E.1 3 n = l ∧ s_kn E p n = true ∧ ¬ s_bar E n = true)) : s_cf E p l (n + 1) = s_cf E p l n := by
  rw [s_cf, if_neg (by simpa using h)]
theorem kn_i {E : Ev} {p n : Nat} (hp : p < 4) (h0 : 0 ≤ E.1 7 n) (h1 : E.1 7 n < 16) : s_kn E p n = true ↔ en_and (en_shr (E.1 7 n) (p : Int)) 1 ≠ 0 := by
  rw [nu_kn h0 h1 (by omega)]
  unfold s_kn
  split <;> simp [*]
theorem bar_i {E : Ev} {n : Nat} (h7 : 0 ≤ E.1 1 7 ∧ E.1 1 7 ≤ 1) : s_bar E n = true ↔ (E.1 1 7 ≠ 0 ∧ E.1 8 n ≠ 0) := by
  unfold s_bar
  rw [Bool.and_eq_true, decide_eq_true_eq, Bool.not_eq_true', decide_eq_false_iff_not]
  omega
theorem L_fillsOf {post : Option AV → Mm → Prop} (b : Nat) (E : Ev) (M : Mm) (hJ : isM M b E) (hg : s_ok E) (p : Nat) (hp : p < 4) (l : Int) (hl : -2147483648 ≤ l ∧ l < 2147483648) (hq : post (some (.inl ((s_fill E p l : Nat) : Int))) M) : ∀ (n : Nat) (i : Nat), (((i : Nat) : Int) + ((n : Nat) : Int) = E.1 0 1) → en_AW 2 0 223 post 5 [some (.inr (.inr (1, 6, b))), some (.inl ((p : Nat) : Int)), some (.inl l), some (.inl ((s_cf E p l i : Nat) : Int)), some (.inl ((i : Nat) : Int)), none] [] M 0 := by
  intro n
  induction n with
  | zero =>
    intro i hi
    obtain ⟨n0, n1, n2, a0, a1, a2, a3, a4, a5, a6, a7⟩ := nm_J hJ hg
    have r0 : M.1 b 9 = E.1 0 0 := hJ.1.1
    have r1 : M.1 b 10 = E.1 0 1 := hJ.1.2.1
    have r2 : M.1 b 18 = E.1 0 2 := hJ.1.2.2.1
    have r3 : M.1 (b + 31) = E.1 1 := hJ.2.1.1
    have hb := s_cf_lt (p := p) (l := l) hg.2.1 hg.1 i (by omega)
    refine aw_223_5 ?_
    refine br_ge_y (a := ((i : Nat) : Int)) (b := M.1 b 10) (by omega) (by omega) (by omega) ?_
    refine aw_223_93 ?_
    refine ⟨1, 0, by first | decide | omega, by first | decide | omega, en_Ct_eq (R_bits' ((s_cf E p l i : Nat) : Int) (by omega) (by omega) _) ?_⟩
    have pb2 := s_pc_b (n := (s_cf E p l i))
    rw [s_fill, show (E.1 0 1).toNat = i by omega] at hq
    exact hq
  | succ n ih =>
    intro i hi
    obtain ⟨n0, n1, n2, a0, a1, a2, a3, a4, a5, a6, a7⟩ := nm_J hJ hg
    have r0 : M.1 b 9 = E.1 0 0 := hJ.1.1
    have r1 : M.1 b 10 = E.1 0 1 := hJ.1.2.1
    have r2 : M.1 b 18 = E.1 0 2 := hJ.1.2.2.1
    have r3 : M.1 (b + 31) = E.1 1 := hJ.2.1.1
    have e3 : M.1 (b + 18) i = E.1 3 i := congrFun (hJ.2.1.2.2.2 3 (by decide) (by decide)) i
    have e4 : M.1 (b + 19) i = E.1 4 i := congrFun (hJ.2.1.2.2.2 4 (by decide) (by decide)) i
    have e7 : M.1 (b + 22) i = E.1 7 i := congrFun (hJ.2.1.2.2.2 7 (by decide) (by decide)) i
    have e8 : M.1 (b + 23) i = E.1 8 i := congrFun (hJ.2.1.2.2.2 8 (by decide) (by decide)) i
    have e17 : M.1 (b + 31) 7 = E.1 1 7 := congrFun r3 7
    obtain ⟨k1, k2, k3, k4, k5, k6, k7⟩ := hg.2.1 i (by omega)
    have hkn := kn_i (E := E) (n := i) hp k6.1 k6.2
    rw [← e7] at hkn
    have hba := bar_i (E := E) (n := i) (by omega)
    have hb1 := nu_and1 (en_shr (M.1 (b + 22) i) ((p : Nat) : Int))
    have hb := s_cf_lt (p := p) (l := l) hg.2.1 hg.1 i (by omega)
    refine aw_223_5 ?_
    refine br_ge_n (a := ((i : Nat) : Int)) (b := M.1 b 10) (by omega) (by omega) (by omega) ?_
    refine ⟨i, rfl, (show i < 24 by omega), ?_⟩
    refine br_ne (a := M.1 (b + 18) i) (b := l) (by omega) (by omega) (fun q2 => ?_) (fun q2 => ?_)
    · refine aw_223_63 ?_
      refine aw_223_64 ?_
      refine br_eq_y (by decide) (by decide) (by decide) ?_
      refine aw_223_84 ?_
      refine aw_223_85 ?_
      refine en_AW_drop [true, true, true, true, true, false] ?_
      refine en_AW_ls (congrArg (fun z_ : Int => ([some (.inr (.inr (1, 6, b))), some (.inl ((p : Nat) : Int)), some (.inl l), some (.inl z_), some (.inl (((i : Nat) : Int) + 1)), none] : AL)) (show en_or ((s_cf E p l i : Nat) : Int) 0 = ((s_cf E p l (i + 1) : Nat) : Int) from by rw [nu_or0 (by omega), cf_f (by rw [hkn, hba]; omega)])) ?_
      exact ih (i + 1) (by omega)
    · refine ⟨i, rfl, (show i < 24 by omega), ?_⟩
      refine br_eq (a := en_and (en_shr (M.1 (b + 22) i) ((p : Nat) : Int)) 1) (b := 0) (by omega) (by omega) (fun q4 => ?_) (fun q4 => ?_)
      · refine aw_223_63 ?_
        refine aw_223_64 ?_
        refine br_eq_y (by decide) (by decide) (by decide) ?_
        refine aw_223_84 ?_
        refine aw_223_85 ?_
        refine en_AW_drop [true, true, true, true, true, false] ?_
        refine en_AW_ls (congrArg (fun z_ : Int => ([some (.inr (.inr (1, 6, b))), some (.inl ((p : Nat) : Int)), some (.inl l), some (.inl z_), some (.inl (((i : Nat) : Int) + 1)), none] : AL)) (show en_or ((s_cf E p l i : Nat) : Int) 0 = ((s_cf E p l (i + 1) : Nat) : Int) from by rw [nu_or0 (by omega), cf_f (by rw [hkn, hba]; omega)])) ?_
        exact ih (i + 1) (by omega)
      · refine ⟨7, rfl, (show 7 < 8 by omega), ?_⟩
        refine br_eq (a := M.1 (b + 31) 7) (b := 0) (by omega) (by omega) (fun q6 => ?_) (fun q6 => ?_)
        · refine aw_223_59 ?_
          refine aw_223_64 ?_
          refine br_eq_n (by decide) (by decide) (by decide) ?_
          refine ⟨i, rfl, (show i < 24 by omega), ?_⟩
          refine aw_223_85 ?_
          refine en_AW_drop [true, true, true, true, true, false] ?_
          refine en_AW_ls (congrArg (fun z_ : Int => ([some (.inr (.inr (1, 6, b))), some (.inl ((p : Nat) : Int)), some (.inl l), some (.inl z_), some (.inl (((i : Nat) : Int) + 1)), none] : AL)) (show en_or ((s_cf E p l i : Nat) : Int) (en_shl 1 (M.1 (b + 19) i)) = ((s_cf E p l (i + 1) : Nat) : Int) from by rw [nu_orset (by omega) (by omega) (by omega), cf_t (by omega) (hkn.mpr (by omega)) (by rw [hba]; omega), e4])) ?_
          exact ih (i + 1) (by omega)
        · refine ⟨i, rfl, (show i < 24 by omega), ?_⟩
          refine br_ne (a := M.1 (b + 23) i) (b := 0) (by omega) (by omega) (fun q8 => ?_) (fun q8 => ?_)
          · refine aw_223_63 ?_
            refine aw_223_64 ?_
            refine br_eq_y (by decide) (by decide) (by decide) ?_
            refine aw_223_84 ?_
            refine aw_223_85 ?_
            refine en_AW_drop [true, true, true, true, true, false] ?_
            refine en_AW_ls (congrArg (fun z_ : Int => ([some (.inr (.inr (1, 6, b))), some (.inl ((p : Nat) : Int)), some (.inl l), some (.inl z_), some (.inl (((i : Nat) : Int) + 1)), none] : AL)) (show en_or ((s_cf E p l i : Nat) : Int) 0 = ((s_cf E p l (i + 1) : Nat) : Int) from by rw [nu_or0 (by omega), cf_f (by rw [hkn, hba]; omega)])) ?_
            exact ih (i + 1) (by omega)
          · refine aw_223_59 ?_
            refine aw_223_64 ?_
            refine br_eq_n (by decide) (by decide) (by decide) ?_
            refine ⟨i, rfl, (show i < 24 by omega), ?_⟩
            refine aw_223_85 ?_
            refine en_AW_drop [true, true, true, true, true, false] ?_
            refine en_AW_ls (congrArg (fun z_ : Int => ([some (.inr (.inr (1, 6, b))), some (.inl ((p : Nat) : Int)), some (.inl l), some (.inl z_), some (.inl (((i : Nat) : Int) + 1)), none] : AL)) (show en_or ((s_cf E p l i : Nat) : Int) (en_shl 1 (M.1 (b + 19) i)) = ((s_cf E p l (i + 1) : Nat) : Int) from by rw [nu_orset (by omega) (by omega) (by omega), cf_t (by omega) (hkn.mpr (by omega)) (by rw [hba]; omega), e4])) ?_
            exact ih (i + 1) (by omega)
theorem R_fillsOf (b : Nat) (E : Ev) (M : Mm) (hJ : isM M b E) (hg : s_ok E) (p : Nat) (hp : p < 4) (l : Int) (hl : -2147483648 ≤ l ∧ l < 2147483648) : en_Ct 2 0 223 [.inr (.inr (1, 6, b)), .inl ((p : Nat) : Int), .inl l] M (fun r M' => r = some (.inl (((s_fill E p l : Nat) : Int))) ∧ M' = M) := by
  obtain ⟨n0, n1, n2, a0, a1, a2, a3, a4, a5, a6, a7⟩ := nm_J hJ hg
  have r0 : M.1 b 9 = E.1 0 0 := hJ.1.1
  have r1 : M.1 b 10 = E.1 0 1 := hJ.1.2.1
  have r2 : M.1 b 18 = E.1 0 2 := hJ.1.2.2.1
  have r3 : M.1 (b + 31) = E.1 1 := hJ.2.1.1
  refine ct_223 rfl ?_
  refine aw_223_0 ?_
  exact L_fillsOf b E M hJ hg p hp l hl ⟨rfl, rfl⟩ (E.1 0 1).toNat 0 (by omega)
theorem M_fill {M : Mm} {E : Ev} (h : isM M 84 E) (hg : s_ok E) {x : Int} (h0 : 0 ≤ x) (h1 : x < 4) {l : Int} (hl : -2147483648 ≤ l ∧ l < 2147483648) : en_Ct 2 0 223 [.inr (.inr (1, 6, 84)), .inl x, .inl l] M (fun r M' => r = some (.inl ((s_fill E x.toNat l : Nat) : Int)) ∧ M' = M) := by
  have := R_fillsOf 84 E M h hg x.toNat (by omega) l hl
  rw [show ((x.toNat : Nat) : Int) = x by omega] at this
  exact this
def a_fills (E : Ev) (x : Int) (l : Int) : Nat × Int := if (0 ≤ x ∧ x < E.1 0 2) ∧ 0 ≤ l ∧ l ≤ 25 then (0, ((s_fill E x.toNat l : Nat) : Int)) else (1, -2)
theorem PX_fills (E : Ev) (M : Mm) (hI : isE M 1 E) (hg : s_ok E) (x : Int) (l : Int) (hx : -2147483648 ≤ x ∧ x < 2147483648) (hl : -2147483648 ≤ l ∧ l < 2147483648) : en_Ct 9 0 99 [.inr (.inr (1, 5, 0)), .inl x, .inl l] M (fun r M' => r = some (.inl (a_fills E x l).2) ∧ sX (aX M (a_fills E x l).1) M') := by
  obtain ⟨n0, n1, n2, a0, a1, a2, a3, a4, a5, a6, a7⟩ := hg.1
  have r0 : M.1 1 0 = E.1 0 0 := r0_I hI 0
  have r1 : M.1 1 1 = E.1 0 1 := r0_I hI 1
  have r2 : M.1 1 2 = E.1 0 2 := r0_I hI 2
  refine ct_99 rfl ?_
  refine aw_99_0 ?_
  by_cases c1 : 0 ≤ x ∧ x < E.1 0 2
  · refine ⟨2, 0, by first | decide | omega, by first | decide | omega, en_Ct_t (X_isPerson (M := M) (e := 1) (E := E) hI hg (x := x) (by omega)) c1 ?_⟩
    refine br_eq_n (by decide) (by decide) (by decide) ?_
    by_cases c3 : 0 ≤ l ∧ l ≤ 25
    · refine ⟨2, 0, by first | decide | omega, by first | decide | omega, en_Ct_t (R_isLetter l (by omega) _) c3 ?_⟩
      refine br_ne_y (by decide) (by decide) (by decide) ?_
      refine aw_99_25 ?_
      refine ⟨2, 0, by first | decide | omega, by first | decide | omega, en_Ct_eq (X_fill (M := M) (e := 1) (E := E) hI hg (x := x) (by omega) (by omega) (l := l) (by omega)) ?_⟩
      have fb5 := s_fill_b (E := E) (p := x.toNat) (l := l)
      have ha : a_fills E x l = (0, ((s_fill E x.toNat l : Nat) : Int)) := by
        unfold a_fills
        repeat first | rw [if_pos (by omega)] | rw [if_neg (by omega)]
        first | done | rfl | (rfl)
      rw [ha]
      exact ⟨rfl, sX_rfl⟩
    · refine ⟨2, 0, by first | decide | omega, by first | decide | omega, en_Ct_f (R_isLetter l (by omega) _) c3 ?_⟩
      refine br_ne_n (by decide) (by decide) (by decide) ?_
      refine aw_99_18 ?_
      refine ⟨2, 0, by first | decide | omega, by first | decide | omega, en_Ct_eq (R_refX (-2) (by omega) M) ?_⟩
      have ha : a_fills E x l = (1, (-2)) := by
        unfold a_fills
        repeat first | rw [if_pos (by omega)] | rw [if_neg (by omega)]
        first | done | rfl | (rfl)
      rw [ha]
      exact ⟨rfl, sX_rfl⟩
  · refine ⟨2, 0, by first | decide | omega, by first | decide | omega, en_Ct_f (X_isPerson (M := M) (e := 1) (E := E) hI hg (x := x) (by omega)) c1 ?_⟩
    refine br_eq_y (by decide) (by decide) (by decide) ?_
    refine aw_99_18 ?_
    refine ⟨2, 0, by first | decide | omega, by first | decide | omega, en_Ct_eq (R_refX (-2) (by omega) M) ?_⟩
    have ha : a_fills E x l = (1, (-2)) := by
      unfold a_fills
      repeat first | rw [if_pos (by omega)] | rw [if_neg (by omega)]
      first | done | rfl | (rfl)
    rw [ha]
    exact ⟨rfl, sX_rfl⟩
theorem PM_fills (E : Ev) (M : Mm) (hJ : isM M 84 E) (hg : s_ok E) (x : Int) (l : Int) (hx : -2147483648 ≤ x ∧ x < 2147483648) (hl : -2147483648 ≤ l ∧ l < 2147483648) : en_Ct 9 0 224 [.inr (.inr (1, 6, 84)), .inl x, .inl l] M (fun r M' => r = some (.inl (a_fills E x l).2) ∧ sM (aM M (a_fills E x l).1) M') := by
  obtain ⟨n0, n1, n2, a0, a1, a2, a3, a4, a5, a6, a7⟩ := hg.1
  have r0 : M.1 84 9 = E.1 0 0 := hJ.1.1
  have r1 : M.1 84 10 = E.1 0 1 := hJ.1.2.1
  have r2 : M.1 84 18 = E.1 0 2 := hJ.1.2.2.1
  refine ct_224 rfl ?_
  refine aw_224_0 ?_
  by_cases c1 : 0 ≤ x ∧ x < E.1 0 2
  · refine ⟨2, 0, by first | decide | omega, by first | decide | omega, en_Ct_t (M_isPerson (M := M) (E := E) hJ hg (x := x) (by omega)) c1 ?_⟩
    refine br_eq_n (by decide) (by decide) (by decide) ?_
    by_cases c3 : 0 ≤ l ∧ l ≤ 25
    · refine ⟨1, 0, by first | decide | omega, by first | decide | omega, en_Ct_t (R_in (en_wr l) 0 25 l 0 25 (wl_wr ⟨by omega, by omega⟩) (wl_of ⟨by omega, by omega⟩) (wl_of ⟨by omega, by omega⟩) _) c3 ?_⟩
      refine br_eq_n (by decide) (by decide) (by decide) ?_
      refine ⟨2, 0, by first | decide | omega, by first | decide | omega, en_Ct_eq (M_fill (M := M) (E := E) hJ hg (x := x) (by omega) (by omega) (l := l) (by omega)) ?_⟩
      have fb5 := s_fill_b (E := E) (p := x.toNat) (l := l)
      refine aw_224_35 ?_
      have ha : a_fills E x l = (0, ((s_fill E x.toNat l : Nat) : Int)) := by
        unfold a_fills
        repeat first | rw [if_pos (by omega)] | rw [if_neg (by omega)]
        first | done | rfl | (rfl)
      rw [ha]
      exact ⟨rfl, sM_rfl⟩
    · refine ⟨1, 0, by first | decide | omega, by first | decide | omega, en_Ct_f (R_in (en_wr l) 0 25 l 0 25 (wl_wr ⟨by omega, by omega⟩) (wl_of ⟨by omega, by omega⟩) (wl_of ⟨by omega, by omega⟩) _) c3 ?_⟩
      refine br_eq_y (by decide) (by decide) (by decide) ?_
      refine aw_224_29 ?_
      refine ⟨1, 0, by first | decide | omega, by first | decide | omega, en_Ct_eq (R_refM (-2) (by omega) M) ?_⟩
      refine aw_224_35 ?_
      have ha : a_fills E x l = (1, (-2)) := by
        unfold a_fills
        repeat first | rw [if_pos (by omega)] | rw [if_neg (by omega)]
        first | done | rfl | (rfl)
      rw [ha]
      exact ⟨rfl, sM_rfl⟩
  · refine ⟨2, 0, by first | decide | omega, by first | decide | omega, en_Ct_f (M_isPerson (M := M) (E := E) hJ hg (x := x) (by omega)) c1 ?_⟩
    refine br_eq_y (by decide) (by decide) (by decide) ?_
    refine aw_224_29 ?_
    refine ⟨1, 0, by first | decide | omega, by first | decide | omega, en_Ct_eq (R_refM (-2) (by omega) M) ?_⟩
    refine aw_224_35 ?_
    have ha : a_fills E x l = (1, (-2)) := by
      unfold a_fills
      repeat first | rw [if_pos (by omega)] | rw [if_neg (by omega)]
      first | done | rfl | (rfl)
    rw [ha]
    exact ⟨rfl, sM_rfl⟩
theorem ea_fills {E F : Ev} (h : evs E F) (hg : s_ok E) {x : Int} {l : Int} : a_fills E x l = a_fills F x l := by
  have hb := hg.1.2.2.1
  have hw := hg.1.2.1
  unfold a_fills
  rw [← h.1 2 (by decide)]
  rw [ev_fill h hg]
