theorem xE_tr {M K K' : Mm} (h : xE M K) (h' : xE K K') : xE M K' := ⟨fun a ha => (h'.1 a ha).trans (h.1 a ha), h'.2.1.trans h.2.1, fun a ha => (h'.2.2 a ha).trans (h.2.2 a ha)⟩
theorem mE_tr {M K K' : Mm} (h : mE M K) (h' : mE K K') : mE M K' := ⟨fun a ha => (h'.1 a ha).trans (h.1 a ha), fun i hi => (h'.2.1 i hi).trans (h.2.1 i hi), fun a ha => (h'.2.2 a ha).trans (h.2.2 a ha)⟩
theorem L_rnX1 {post : Option AV → Mm → Prop} (E Y : Ev) (M : Mm) (hg : s_ok E) (hgY : s_ok Y) (hY : Y.1 0 2 = E.1 0 2) (m k : Nat) (hx : ∀ K : Mm, isE K 1 (u_bp Y (E.1 0 2).toNat) → xE M K → en_AW 12 0 113 post 82 [some (.inr (.inr (1, 5, 0))), some (.inl ((m : Nat) : Int)), some (.inl ((k : Nat) : Int)), none] [] K 0) : ∀ (n : Nat) (i : Nat) (K : Mm), (((i : Nat) : Int) + ((n : Nat) : Int) = E.1 0 2) → (isE K 1 (u_bp Y i)) → (xE M K) → en_AW 12 0 113 post 59 [some (.inr (.inr (1, 5, 0))), some (.inl ((m : Nat) : Int)), some (.inl ((k : Nat) : Int)), some (.inl ((i : Nat) : Int))] [] K 0 := by
  intro n
  induction n with
  | zero =>
    intro i K hi hI hF
    have n2 := hg.1.2.2.1
    have k2 : K.1 1 2 = E.1 0 2 := by rw [r0_I hI 2, bp_0]; exact hY
    refine aw_113_59 ?_
    refine br_ge_y (a := ((i : Nat) : Int)) (b := K.1 1 2) (by omega) (by omega) (by omega) ?_
    refine en_AW_drop [true, true, true, false] ?_
    exact hx K (by rw [show (E.1 0 2).toNat = i by omega]; exact hI) hF
  | succ n ih =>
    intro i K hi hI hF
    have n2 := hg.1.2.2.1
    have k2 : K.1 1 2 = E.1 0 2 := by rw [r0_I hI 2, bp_0]; exact hY
    refine aw_113_59 ?_
    refine br_ge_n (a := ((i : Nat) : Int)) (b := K.1 1 2) (by omega) (by omega) (by omega) ?_
    refine ⟨10, 0, by first | decide | omega, by first | decide | omega, en_Ct_mono (R_pbs (u_bp Y i) K hI (ok_bp hgY i) i (by omega)) ?_⟩
    rintro _ K2 ⟨rfl, hxe, hIe⟩
    exact ih (i + 1) K2 (by omega) hIe (xE_tr hF hxe)
theorem L_rnX {post : Option AV → Mm → Prop} (E : Ev) (M : Mm) (hg : s_ok E) (hP : 1 ≤ E.1 0 2) (m : Nat) (hm : m ≤ 9) (hx : ∀ K : Mm, isE K 1 (u_rn E m) → xE M K → post (some (.inl ((s_fs (u_rn E m) (E.1 0 2).toNat : Nat) : Int))) K) : ∀ (n : Nat) (k : Nat) (K : Mm), (k + n = m) → (isE K 1 (u_rn E k)) → (xE M K) → en_AW 12 0 113 post 36 [some (.inr (.inr (1, 5, 0))), some (.inl ((m : Nat) : Int)), some (.inl ((k : Nat) : Int)), none] [] K 0 := by
  intro n
  induction n with
  | zero =>
    intro k K hi hI hF
    have n2 := hg.1.2.2.1
    have k2 : K.1 1 2 = E.1 0 2 := by rw [r0_I hI 2, rn_0 k 2 (by decide)]
    refine aw_113_36 ?_
    refine br_ge_y (a := ((k : Nat) : Int)) (b := ((m : Nat) : Int)) (by omega) (by omega) (by omega) ?_
    refine aw_113_93 ?_
    refine ⟨1, 0, by first | decide | omega, by first | decide | omega, en_Ct_eq (R_fs 1 K (tr_num hI (ok_rn hg k).1) (tr_wok hI (ok_rn hg k).2.1) (by omega)) ?_⟩
    have e : s_fs (vE K 1) (K.1 1 2).toNat = s_fs (u_rn E m) (E.1 0 2).toNat := by
      rw [show m = k by omega, k2, ev_fs (isE_evs hI) _ (by omega)]
    rw [e]
    exact hx K (by rw [show m = k by omega]; exact hI) hF
  | succ n ih =>
    intro k K hi hI hF
    have n2 := hg.1.2.2.1
    refine aw_113_36 ?_
    refine br_ge_n (a := ((k : Nat) : Int)) (b := ((m : Nat) : Int)) (by omega) (by omega) (by omega) ?_
    refine ⟨1, 0, by first | decide | omega, by first | decide | omega, en_Ct_eq (R_draw 1 K) ?_⟩
    refine ⟨0, rfl, (show 0 < 8 by omega), ?_⟩
    have e3 : K.1 1 3 = (u_rn E k).1 0 3 := r0_I hI 3
    have hI2 : isE (en_wI (en_wI K 1 3 (K.1 1 3 * 1103515245 + 12345)) 2 0 (draw (K.1 1 3))) 1 (u_dr (u_rn E k)) := by
      unfold u_dr
      rw [← e3]
      exact isE_w (isE_w hI (r := 0) (by decide) 3 _) (r := 1) (by decide) 0 _
    refine L_rnX1 E (u_dr (u_rn E k)) M hg (ok_dr (ok_rn hg k)) ?_ m k (fun K3 hI3 hF3 => ?_) (E.1 0 2).toNat 0 _ (by omega) hI2 (xE_w (xE_w hF (by decide)) (by decide))
    · show (upr (upr (u_rn E k) 0 3 _) 1 0 _).1 0 2 = _
      rw [upr_n (by omega), upr_n (by omega), rn_0 k 2 (by decide)]
    refine aw_113_82 ?_
    refine ⟨8, 0, by first | decide | omega, by first | decide | omega, en_Ct_mono (R_endRound (u_bp (u_dr (u_rn E k)) (E.1 0 2).toNat) K3 hI3 (ok_bp (ok_dr (ok_rn hg k)) _)) ?_⟩
    rintro _ K4 ⟨rfl, hx4, hI4⟩
    refine en_AW_drop [true, true, true, true] ?_
    exact ih (k + 1) K4 (by omega) hI4 (xE_tr hF3 hx4)
theorem PX_rounds (E : Ev) (M : Mm) (hI : isE M 1 E) (hg : s_ok E) (n : Int) (hn : -2147483648 ≤ n ∧ n < 2147483648) : en_Ct 12 0 113 [.inr (.inr (1, 5, 0)), .inl n] M (fun r M' => r = some (.inl (a_rounds E n).2) ∧ (((a_rounds E n).1 ≠ 0 ∧ sX (aX M (a_rounds E n).1) M') ∨ ((a_rounds E n).1 = 0 ∧ xE M M' ∧ isE M' 1 (u_rn E n.toNat)))) := by
  obtain ⟨n0, n1, n2, a0, a1, a2, a3, a4, a5, a6, a7⟩ := hg.1
  have r0 : M.1 1 0 = E.1 0 0 := r0_I hI 0
  have r1 : M.1 1 1 = E.1 0 1 := r0_I hI 1
  have r2 : M.1 1 2 = E.1 0 2 := r0_I hI 2
  refine ct_113 rfl ?_
  refine aw_113_0 ?_
  by_cases c1 : 1 ≤ n ∧ n ≤ 9
  · refine ⟨1, 0, by first | decide | omega, by first | decide | omega, en_Ct_t (R_within n 1 9 (by omega) (by omega) (by omega) _) c1 ?_⟩
    refine br_ne_y (by decide) (by decide) (by decide) ?_
    refine aw_113_17 ?_
    refine br_ne (a := M.1 1 2) (b := 0) (by omega) (by omega) (fun q3 => ?_) (fun q3 => ?_)
    · refine aw_113_34 ?_
      obtain ⟨m, rfl⟩ := Int.eq_ofNat_of_zero_le (show 0 ≤ n by omega)
      refine L_rnX E M hg (by omega) m (by omega) (fun K h1 h2 => ?_) m 0 M (Nat.zero_add _) hI xE_rfl
      have ha : a_rounds E ((m : Nat) : Int) = (0, ((s_fs (u_rn E m) (E.1 0 2).toNat : Nat) : Int)) := by
        unfold a_rounds
        rw [if_pos (by omega), if_neg (by omega), Int.toNat_natCast]
      rw [ha]
      exact ⟨rfl, Or.inr ⟨rfl, h2, h1⟩⟩
    · refine ⟨2, 0, by first | decide | omega, by first | decide | omega, en_Ct_eq (R_refX (-5) (by omega) M) ?_⟩
      have ha : a_rounds E n = (4, (-5)) := by
        unfold a_rounds
        repeat first | rw [if_pos (by omega)] | rw [if_neg (by omega)]
      rw [ha]
      exact ⟨rfl, Or.inl ⟨by decide, sX_rfl⟩⟩
  · refine ⟨1, 0, by first | decide | omega, by first | decide | omega, en_Ct_f (R_within n 1 9 (by omega) (by omega) (by omega) _) c1 ?_⟩
    refine br_ne_n (by decide) (by decide) (by decide) ?_
    refine ⟨2, 0, by first | decide | omega, by first | decide | omega, en_Ct_eq (R_refX (-2) (by omega) M) ?_⟩
    have ha : a_rounds E n = (1, (-2)) := by
      unfold a_rounds
      repeat first | rw [if_pos (by omega)] | rw [if_neg (by omega)]
    rw [ha]
    exact ⟨rfl, Or.inl ⟨by decide, sX_rfl⟩⟩
theorem R_below (K : Mm) : en_Ct 1 0 232 [.inr (.inr (1, 6, 84)), .inl 26] K (fun r M' => r = some (.inl (draw (K.1 84 23))) ∧ M' = en_wI K 84 23 (K.1 84 23 * 1103515245 + 12345)) := by
  refine ct_232 rfl ?_
  refine aw_232_0 ?_
  refine ⟨by decide, ?_⟩
  refine ⟨congrArg (fun z => some (Sum.inl z)) ?_, rfl⟩
  show en_rem (en_ushr ((en_wI K 84 23 (K.1 84 23 * 1103515245 + 12345)).1 84 23) 16) 26 = draw (K.1 84 23)
  unfold draw
  simp [en_wI]
theorem L_rnM1 {post : Option AV → Mm → Prop} (E Y : Ev) (M : Mm) (hg : s_ok E) (hgY : s_ok Y) (hY : Y.1 0 2 = E.1 0 2) (m k : Nat) (hx : ∀ K : Mm, (∃ X, isM K 84 X ∧ evs (u_bp Y (E.1 0 2).toNat) X) → mE M K → en_AW 20 0 233 post 82 [some (.inr (.inr (1, 6, 84))), some (.inl ((m : Nat) : Int)), some (.inl ((k : Nat) : Int)), none] [] K 0) : ∀ (n : Nat) (i : Nat) (K : Mm), (((i : Nat) : Int) + ((n : Nat) : Int) = E.1 0 2) → (∃ X, isM K 84 X ∧ evs (u_bp Y i) X) → (mE M K) → en_AW 20 0 233 post 54 [some (.inr (.inr (1, 6, 84))), some (.inl ((m : Nat) : Int)), some (.inl ((k : Nat) : Int)), some (.inl ((i : Nat) : Int))] [] K 0 := by
  intro n
  induction n with
  | zero =>
    intro i K hi hX hF
    obtain ⟨X, hJ, hev⟩ := hX
    have n2 := hg.1.2.2.1
    have hgX : s_ok X := ev_ok hev (ok_bp hgY i)
    have eX2 : X.1 0 2 = E.1 0 2 := by rw [← hev.1 2 (by decide), bp_0]; exact hY
    have k2 : K.1 84 18 = E.1 0 2 := by rw [hJ.1.2.2.1]; exact eX2
    refine aw_233_54 ?_
    refine br_ge_y (a := ((i : Nat) : Int)) (b := K.1 84 18) (by omega) (by omega) (by omega) ?_
    refine en_AW_drop [true, true, true, false] ?_
    exact hx K (by rw [show (E.1 0 2).toNat = i by omega]; exact ⟨X, hJ, hev⟩) hF
  | succ n ih =>
    intro i K hi hX hF
    obtain ⟨X, hJ, hev⟩ := hX
    have n2 := hg.1.2.2.1
    have hgX : s_ok X := ev_ok hev (ok_bp hgY i)
    have eX2 : X.1 0 2 = E.1 0 2 := by rw [← hev.1 2 (by decide), bp_0]; exact hY
    have k2 : K.1 84 18 = E.1 0 2 := by rw [hJ.1.2.2.1]; exact eX2
    refine aw_233_54 ?_
    refine br_ge_n (a := ((i : Nat) : Int)) (b := K.1 84 18) (by omega) (by omega) (by omega) ?_
    refine ⟨14, 0, by first | decide | omega, by first | decide | omega, en_Ct_mono (R_findBest 84 X hgX i (by omega) K (isQ_M hJ)) ?_⟩
    rintro _ K1 ⟨rfl, hFT, hQT, w0, w1, w2⟩
    refine ⟨2, 0, by first | decide | omega, by first | decide | omega, en_Ct_mono (M_tb hgX (by omega) hQT hFT w1) ?_⟩
    rintro _ K2 ⟨rfl, hme, h84, X2, hX2, hX3⟩
    exact ih (i + 1) K2 (by omega) ⟨X2, hX2, evs_tr (ev_ub hev (ok_bp hgY i)) hX3⟩ (mE_tr hF hme)
theorem ok_of {E F : Ev} (h : evs E F) (hg : s_ok E) : s_ok F := ev_ok h hg
theorem L_rnM2 {post : Option AV → Mm → Prop} (X : Ev) (K : Mm) (hJ : isM K 84 X) (hgX : s_ok X) (m : Nat) (hq : post (some (.inl ((s_fs X (X.1 0 2).toNat : Nat) : Int))) K) : ∀ (n : Nat) (i : Nat), (1 ≤ i) → (((i : Nat) : Int) + ((n : Nat) : Int) = X.1 0 2) → en_AW 20 0 233 post 97 [some (.inr (.inr (1, 6, 84))), some (.inl ((m : Nat) : Int)), some (.inl ((s_fs X i : Nat) : Int)), some (.inl ((i : Nat) : Int))] [] K 0 := by
  intro n
  induction n with
  | zero =>
    intro i hi1 hi
    have n2 := hgX.1.2.2.1
    have k2 : K.1 84 18 = X.1 0 2 := hJ.1.2.2.1
    refine aw_233_97 ?_
    refine br_ge_y (a := ((i : Nat) : Int)) (b := K.1 84 18) (by omega) (by omega) (by omega) ?_
    refine aw_233_132 ?_
    rw [show (X.1 0 2).toNat = i by omega] at hq
    exact hq
  | succ n ih =>
    intro i hi1 hi
    have n2 := hgX.1.2.2.1
    have k2 : K.1 84 18 = X.1 0 2 := hJ.1.2.2.1
    have hf := s_fs_lt X i (by omega)
    have e15 : K.1 114 = X.1 15 := hJ.2.1.2.2.1
    refine aw_233_97 ?_
    refine br_ge_n (a := ((i : Nat) : Int)) (b := K.1 84 18) (by omega) (by omega) (by omega) ?_
    refine ⟨i, rfl, (show i < 4 by omega), ?_⟩
    refine ⟨s_fs X i, rfl, (show s_fs X i < 4 by omega), ?_⟩
    refine br_le' (a := K.1 114 i) (b := K.1 114 (s_fs X i)) (fun q2 => ?_) (fun q2 => ?_)
    · refine aw_233_124 ?_
      refine aw_233_125 ?_
      refine en_AW_ls (congrArg (fun z_ : Int => ([some (.inr (.inr (1, 6, 84))), some (.inl ((m : Nat) : Int)), some (.inl z_), some (.inl (((i : Nat) : Int) + 1))] : AL)) (show ((s_fs X i : Nat) : Int) = ((s_fs X (i + 1) : Nat) : Int) from congrArg (fun z : Nat => (z : Int)) (show s_fs X i = s_fs X (i + 1) from by rw [s_fs_s, ← e15]; exact (if_neg (Int.not_lt.mpr ‹_›)).symm))) ?_
      exact ih (i + 1) (by omega) (by omega)
    · refine aw_233_125 ?_
      refine en_AW_ls (congrArg (fun z_ : Int => ([some (.inr (.inr (1, 6, 84))), some (.inl ((m : Nat) : Int)), some (.inl z_), some (.inl (((i : Nat) : Int) + 1))] : AL)) (show ((i : Nat) : Int) = ((s_fs X (i + 1) : Nat) : Int) from congrArg (fun z : Nat => (z : Int)) (show i = s_fs X (i + 1) from by rw [s_fs_s, ← e15]; exact (if_pos ‹_›).symm))) ?_
      exact ih (i + 1) (by omega) (by omega)
theorem L_rnM {post : Option AV → Mm → Prop} (E : Ev) (M : Mm) (hg : s_ok E) (hP : 1 ≤ E.1 0 2) (m : Nat) (hm : m ≤ 9) (hx : ∀ K : Mm, (∃ X, isM K 84 X ∧ evs (u_rn E m) X) → mE M K → post (some (.inl ((s_fs (u_rn E m) (E.1 0 2).toNat : Nat) : Int))) K) : ∀ (n : Nat) (k : Nat) (K : Mm), (k + n = m) → (∃ X, isM K 84 X ∧ evs (u_rn E k) X) → (mE M K) → en_AW 20 0 233 post 35 [some (.inr (.inr (1, 6, 84))), some (.inl ((m : Nat) : Int)), some (.inl ((k : Nat) : Int)), none] [] K 0 := by
  intro n
  induction n with
  | zero =>
    intro k K hi hX hF
    obtain ⟨X, hJ, hev⟩ := hX
    have n2 := hg.1.2.2.1
    have hgX : s_ok X := ev_ok hev (ok_rn hg k)
    have eX2 : X.1 0 2 = E.1 0 2 := by rw [← hev.1 2 (by decide), rn_0 k 2 (by decide)]
    have k2 : K.1 84 18 = E.1 0 2 := by rw [hJ.1.2.2.1]; exact eX2
    refine aw_233_35 ?_
    refine br_ge_y (a := ((k : Nat) : Int)) (b := ((m : Nat) : Int)) (by omega) (by omega) (by omega) ?_
    refine aw_233_93 ?_
    refine en_AW_ls (congrArg (fun z_ : Int => ([some (.inr (.inr (1, 6, 84))), some (.inl ((m : Nat) : Int)), some (.inl z_), some (.inl 1)] : AL)) (show (0 : Int) = ((s_fs X 1 : Nat) : Int) by rw [s_fs_1]; rfl)) ?_
    refine L_rnM2 X K hJ hgX m ?_ ((E.1 0 2).toNat - 1) 1 (Nat.le_refl _) (by omega)
    have e : s_fs X (X.1 0 2).toNat = s_fs (u_rn E m) (E.1 0 2).toNat := by
      rw [show m = k by omega, eX2, ev_fs hev _ (by omega)]
    rw [e]
    exact hx K (by rw [show m = k by omega]; exact ⟨X, hJ, hev⟩) hF
  | succ n ih =>
    intro k K hi hX hF
    obtain ⟨X, hJ, hev⟩ := hX
    have n2 := hg.1.2.2.1
    have hgX : s_ok X := ev_ok hev (ok_rn hg k)
    have eX2 : X.1 0 2 = E.1 0 2 := by rw [← hev.1 2 (by decide), rn_0 k 2 (by decide)]
    have k2 : K.1 84 18 = E.1 0 2 := by rw [hJ.1.2.2.1]; exact eX2
    refine aw_233_35 ?_
    refine br_ge_n (a := ((k : Nat) : Int)) (b := ((m : Nat) : Int)) (by omega) (by omega) (by omega) ?_
    refine ⟨1, 0, by first | decide | omega, by first | decide | omega, en_Ct_eq (R_below K) ?_⟩
    refine ⟨0, rfl, (show 0 < 8 by omega), ?_⟩
    have e3 : K.1 84 23 = X.1 0 3 := hJ.1.2.2.2
    have hJ2 : isM (en_wI (en_wI K 84 23 (K.1 84 23 * 1103515245 + 12345)) 115 0 (draw (K.1 84 23))) 84 (u_dr X) := by
      unfold u_dr
      rw [← e3]
      exact isM_w (isM_w0 hJ (s := 23) (i := 3) (by decide) _) (a := 115) (r := 1) (by decide) 0 _
    refine L_rnM1 E (u_dr (u_rn E k)) M hg (ok_dr (ok_rn hg k)) ?_ m k (fun K3 hX3 hF3 => ?_) (E.1 0 2).toNat 0 _ (by omega) ⟨u_dr X, hJ2, ev_dr hev⟩ (mE_w (mE_w0 hF (by decide)) (by decide))
    · show (upr (upr (u_rn E k) 0 3 _) 1 0 _).1 0 2 = _
      rw [upr_n (by omega), upr_n (by omega), rn_0 k 2 (by decide)]
    obtain ⟨X3, hJ3, hev3⟩ := hX3
    refine aw_233_82 ?_
    refine ⟨8, 0, by first | decide | omega, by first | decide | omega, en_Ct_mono (R_goesRound X3 K3 hJ3 (ok_of hev3 (ok_bp (ok_dr (ok_rn hg k)) _))) ?_⟩
    rintro _ K4 ⟨rfl, hm4, hJ4⟩
    exact ih (k + 1) K4 (by omega) ⟨u_round X3, hJ4, ev_ur hev3 (ok_bp (ok_dr (ok_rn hg k)) _)⟩ (mE_tr hF3 hm4)
theorem PM_rounds (E : Ev) (M : Mm) (hJ : isM M 84 E) (hg : s_ok E) (n : Int) (hn : -2147483648 ≤ n ∧ n < 2147483648) : en_Ct 20 0 233 [.inr (.inr (1, 6, 84)), .inl n] M (fun r M' => r = some (.inl (a_rounds E n).2) ∧ (((a_rounds E n).1 ≠ 0 ∧ sM (aM M (a_rounds E n).1) M') ∨ ((a_rounds E n).1 = 0 ∧ mE M M' ∧ ∃ X, isM M' 84 X ∧ evs (u_rn E n.toNat) X))) := by
  obtain ⟨n0, n1, n2, a0, a1, a2, a3, a4, a5, a6, a7⟩ := hg.1
  have r0 : M.1 84 9 = E.1 0 0 := hJ.1.1
  have r1 : M.1 84 10 = E.1 0 1 := hJ.1.2.1
  have r2 : M.1 84 18 = E.1 0 2 := hJ.1.2.2.1
  refine ct_233 rfl ?_
  refine aw_233_0 ?_
  by_cases c1 : 1 ≤ n ∧ n ≤ 9
  · refine ⟨1, 0, by first | decide | omega, by first | decide | omega, en_Ct_t (R_in (en_wr n) 1 9 n 1 9 (wl_wr ⟨by omega, by omega⟩) (wl_of ⟨by omega, by omega⟩) (wl_of ⟨by omega, by omega⟩) _) c1 ?_⟩
    refine br_ne_y (by decide) (by decide) (by decide) ?_
    refine aw_233_19 ?_
    refine br_ne (a := M.1 84 18) (b := 0) (by omega) (by omega) (fun q3 => ?_) (fun q3 => ?_)
    · refine aw_233_33 ?_
      obtain ⟨m, rfl⟩ := Int.eq_ofNat_of_zero_le (show 0 ≤ n by omega)
      refine L_rnM E M hg (by omega) m (by omega) (fun K h1 h2 => ?_) m 0 M (Nat.zero_add _) ⟨E, hJ, evs_rfl⟩ mE_rfl
      have ha : a_rounds E ((m : Nat) : Int) = (0, ((s_fs (u_rn E m) (E.1 0 2).toNat : Nat) : Int)) := by
        unfold a_rounds
        rw [if_pos (by omega), if_neg (by omega), Int.toNat_natCast]
      rw [ha]
      exact ⟨rfl, Or.inr ⟨rfl, h2, h1⟩⟩
    · refine ⟨1, 0, by first | decide | omega, by first | decide | omega, en_Ct_eq (R_refM (-5) (by omega) M) ?_⟩
      have ha : a_rounds E n = (4, (-5)) := by
        unfold a_rounds
        repeat first | rw [if_pos (by omega)] | rw [if_neg (by omega)]
      rw [ha]
      exact ⟨rfl, Or.inl ⟨by decide, sM_rfl⟩⟩
  · refine ⟨1, 0, by first | decide | omega, by first | decide | omega, en_Ct_f (R_in (en_wr n) 1 9 n 1 9 (wl_wr ⟨by omega, by omega⟩) (wl_of ⟨by omega, by omega⟩) (wl_of ⟨by omega, by omega⟩) _) c1 ?_⟩
    refine br_ne_n (by decide) (by decide) (by decide) ?_
    refine ⟨1, 0, by first | decide | omega, by first | decide | omega, en_Ct_eq (R_refM (-2) (by omega) M) ?_⟩
    have ha : a_rounds E n = (1, (-2)) := by
      unfold a_rounds
      repeat first | rw [if_pos (by omega)] | rw [if_neg (by omega)]
    rw [ha]
    exact ⟨rfl, Or.inl ⟨by decide, sM_rfl⟩⟩
theorem S_rounds {n : Int} (hn : -2147483648 ≤ n ∧ n < 2147483648) : sameC 113 233 [.inl n] := same_upE (hx := 12) (hm := 20) (f := fun E => a_rounds E n) (u := fun E => u_rn E n.toNat) (by decide) (by decide) (fun E M h1 h2 => PX_rounds E M h1 h2 n hn) (fun E M h1 h2 => PM_rounds E M h1 h2 n hn) (fun E F h1 h2 => by show a_rounds E n = a_rounds F n; unfold a_rounds; rw [h1.1 2 (by decide), ev_fs (ev_rn h1 h2 _) _ (by have := ok_pp h2; rw [← h1.1 2 (by decide)]; exact this)]) (fun E => by show (a_rounds E n).1 ≤ 5; unfold a_rounds; (repeat' split) <;> exact Nat.le_of_ble_eq_true rfl) (fun E F h1 h2 _ => ⟨ev_rn h1 h2 _, ok_rn h2 _, by rw [rn_0 _ 1 (by decide)]; exact Int.le_refl _⟩)
