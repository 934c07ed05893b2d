theorem kf' : ∀ a : Fin 16, ∀ p : Fin 4, (0 ≤ en_or (a.val : Int) (en_shl 1 (p.val : Int)) ∧ en_or (a.val : Int) (en_shl 1 (p.val : Int)) < 16) ∧ (0 ≤ en_and (a.val : Int) (en_xor (en_shl 1 (p.val : Int)) (-1)) ∧ en_and (a.val : Int) (en_xor (en_shl 1 (p.val : Int)) (-1)) < 16) ∧ ((en_and (en_shr (a.val : Int) (p.val : Int)) 1 ≠ 0 ∧ en_or (a.val : Int) (en_shl 1 (p.val : Int)) = (a.val : Int) ∧ en_xor (a.val : Int) (en_shl 1 (p.val : Int)) = en_and (a.val : Int) (en_xor (en_shl 1 (p.val : Int)) (-1)) ∧ en_and (a.val : Int) (en_xor (en_shl 1 (p.val : Int)) (-1)) ≠ (a.val : Int)) ∨ (en_and (en_shr (a.val : Int) (p.val : Int)) 1 = 0 ∧ en_and (a.val : Int) (en_xor (en_shl 1 (p.val : Int)) (-1)) = (a.val : Int) ∧ en_xor (a.val : Int) (en_shl 1 (p.val : Int)) = en_or (a.val : Int) (en_shl 1 (p.val : Int)) ∧ en_or (a.val : Int) (en_shl 1 (p.val : Int)) ≠ (a.val : Int))) := by decide +kernel
theorem kf {a p : Int} (h0 : 0 ≤ a) (h1 : a < 16) (p0 : 0 ≤ p) (p1 : p < 4) : (0 ≤ en_or a (en_shl 1 p) ∧ en_or a (en_shl 1 p) < 16) ∧ (0 ≤ en_and a (en_xor (en_shl 1 p) (-1)) ∧ en_and a (en_xor (en_shl 1 p) (-1)) < 16) ∧ ((en_and (en_shr a p) 1 ≠ 0 ∧ en_or a (en_shl 1 p) = a ∧ en_xor a (en_shl 1 p) = en_and a (en_xor (en_shl 1 p) (-1)) ∧ en_and a (en_xor (en_shl 1 p) (-1)) ≠ a) ∨ (en_and (en_shr a p) 1 = 0 ∧ en_and a (en_xor (en_shl 1 p) (-1)) = a ∧ en_xor a (en_shl 1 p) = en_or a (en_shl 1 p) ∧ en_or a (en_shl 1 p) ≠ a)) := by
  have h := kf' ⟨a.toNat, by omega⟩ ⟨p.toNat, by omega⟩
  simp only [] at h
  rw [show ((a.toNat : Nat) : Int) = a by omega, show ((p.toNat : Nat) : Int) = p by omega] at h
  exact h
theorem upr_id {E : Ev} {r i : Nat} {v : Int} (h : v = E.1 r i) : upr E r i v = E := by
  subst h
  unfold upr
  refine Prod.ext (funext fun q => ?_) rfl
  by_cases hq : q = r
  · subst hq
    simp only [if_true]
    funext j
    by_cases hj : j = i
    · subst hj; simp
    · simp [hj]
  · simp [hq]
def nb (E : Ev) (x y z : Int) : Int := if z = 1 then en_or (E.1 7 y.toNat) (en_shl 1 x) else en_and (E.1 7 y.toNat) (en_xor (en_shl 1 x) (-1))
theorem X_isKnown {M : Mm} {E : Ev} (h : isE M 1 E) (hg : s_ok E) {x y : Int} (h0 : 0 ≤ x) (h1 : x < 4) (y0 : 0 ≤ y) (y1 : y < E.1 0 1) : en_Ct 1 0 19 [.inr (.inr (1, 1, 1)), .inl x, .inl y] M (fun r M' => r = some (.inl (if en_and (en_shr (M.1 8 y.toNat) x) 1 ≠ 0 then 1 else 0)) ∧ M' = M) := by
  have hkw := (hg.2.1 y.toNat (by omega)).2.2.2.2.2.1
  have ki := kn_i (E := E) (p := x.toNat) (n := y.toNat) (by omega) hkw.1 hkw.2
  rw [show ((x.toNat : Nat) : Int) = x by omega, ← show M.1 8 y.toNat = E.1 7 y.toNat from congrFun (h.1 7 (by decide)) _] at ki
  have key : (if s_kn E x.toNat y.toNat = true then (1 : Int) else 0) = if en_and (en_shr (M.1 8 y.toNat) x) 1 ≠ 0 then 1 else 0 := by simp only [ki]
  have := R_isKnown 1 x.toNat y.toNat M (by omega) (by have := hg.1.2.1; omega) (tr_word h (hg.2.1 _ (by omega)))
  rw [tr_kn h, show ((x.toNat : Nat) : Int) = x by omega, show ((y.toNat : Nat) : Int) = y by omega, key] at this
  exact this
def a_knows (E : Ev) (x : Int) (y : Int) (z : Int) : Nat × Int := if (0 ≤ x ∧ x < E.1 0 2) ∧ 0 ≤ y ∧ y < E.1 0 1 then (0, if E.1 7 y.toNat = nb E x y z then 0 else 1) else (1, -2)
def u_knows (E : Ev) (x : Int) (y : Int) (z : Int) : Ev := upr E 7 y.toNat (nb E x y z)
theorem PX_knows (E : Ev) (M : Mm) (hI : isE M 1 E) (hg : s_ok E) (x : Int) (y : Int) (z : Int) (hz01 : z = 0 ∨ z = 1) (hx : -2147483648 ≤ x ∧ x < 2147483648) (hy : -2147483648 ≤ y ∧ y < 2147483648) (hz : -2147483648 ≤ z ∧ z < 2147483648) : en_Ct 9 0 78 [.inr (.inr (1, 5, 0)), .inl x, .inl y, .inl z] M (fun r M' => r = some (.inl (a_knows E x y z).2) ∧ (((a_knows E x y z).1 ≠ 0 ∧ sX (aX M (a_knows E x y z).1) M') ∨ ((a_knows E x y z).1 = 0 ∧ xE M M' ∧ isE M' 1 (u_knows E x y z)))) := by
  obtain ⟨n0, n1, n2, a0, a1, a2, a3, a4, a5, a6, a7⟩ := hg.1
  have r0 : M.1 1 0 = E.1 0 0 := r0_I hI 0
  have r1 : M.1 1 1 = E.1 0 1 := r0_I hI 1
  have r2 : M.1 1 2 = E.1 0 2 := r0_I hI 2
  have kk : (0 ≤ x ∧ x < E.1 0 2) → (0 ≤ y ∧ y < E.1 0 1) → _ := fun z1 z2 => kf (a := E.1 7 y.toNat) (p := x) (hg.2.1 y.toNat (by omega)).2.2.2.2.2.1.1 (hg.2.1 y.toNat (by omega)).2.2.2.2.2.1.2 z1.1 (by omega)
  have hnb : (z = 1 ∧ nb E x y z = en_or (E.1 7 y.toNat) (en_shl 1 x)) ∨ (z = 0 ∧ nb E x y z = en_and (E.1 7 y.toNat) (en_xor (en_shl 1 x) (-1))) := by
    rcases hz01 with hz | hz
    · exact Or.inr ⟨hz, by unfold nb; rw [if_neg (by omega)]⟩
    · exact Or.inl ⟨hz, by unfold nb; rw [if_pos hz]⟩
  have kw : (0 ≤ x ∧ x < E.1 0 2) → (0 ≤ y ∧ y < E.1 0 1) → 0 ≤ E.1 7 y.toNat ∧ E.1 7 y.toNat < 16 := fun z1 z2 => (hg.2.1 y.toNat (by omega)).2.2.2.2.2.1
  have e7 : M.1 8 y.toNat = E.1 7 y.toNat := congrFun (hI.1 7 (by decide)) _
  refine ct_78 rfl ?_
  refine aw_78_0 ?_
  by_cases c1 : 0 ≤ x ∧ x < E.1 0 2
  · refine ⟨2, 0, by first | decide | omega, by first | decide | omega, en_Ct_t (X_isPerson (M := M) (e := 1) (E := E) hI hg (x := x) (by omega)) c1 ?_⟩
    refine br_eq_n (by decide) (by decide) (by decide) ?_
    by_cases c3 : 0 ≤ y ∧ y < E.1 0 1
    · refine ⟨2, 0, by first | decide | omega, by first | decide | omega, en_Ct_t (X_isWord (M := M) (e := 1) (E := E) hI hg (x := y) (by omega)) c3 ?_⟩
      refine br_ne_y (by decide) (by decide) (by decide) ?_
      refine aw_78_29 ?_
      have z1 : 0 ≤ x ∧ x < E.1 0 2 := by omega
      have z2 : 0 ≤ y ∧ y < E.1 0 1 := by omega
      replace kk := kk z1 z2
      replace kw := kw z1 z2
      rw [← e7] at kk hnb kw
      by_cases c5 : en_and (en_shr (M.1 8 y.toNat) x) 1 ≠ 0
      · refine ⟨1, 0, by first | decide | omega, by first | decide | omega, en_Ct_t (X_isKnown (M := M) (E := E) hI hg (x := x) (y := y) (by omega) (by omega) (by omega) (by omega)) c5 ?_⟩
        refine br_ne (a := 1) (b := z) (by omega) (by omega) (fun q6 => ?_) (fun q6 => ?_)
        · refine aw_78_44 ?_
          refine ⟨y.toNat, it_nn (x := y) (by omega), (show y.toNat < 24 by omega), ?_⟩
          refine ⟨y.toNat, it_nn (x := y) (by omega), (show y.toNat < 24 by omega), ?_⟩
          have ha : a_knows E x y z = (0, 1) := by
            unfold a_knows
            repeat first | rw [if_pos (by omega)] | rw [if_neg (by omega)]
            first | done | rfl | (rfl)
          rw [ha]
          refine ⟨rfl, Or.inr ⟨rfl, ?_⟩⟩
          refine ⟨xE_w xE_rfl (by decide), ?_⟩
          rw [show u_knows E x y z = upr E 7 y.toNat (en_xor (M.1 8 y.toNat) (en_shl 1 x)) from congrArg (upr E 7 y.toNat) (by omega)]
          exact isE_w hI (r := 7) (by decide) _ _
        · have ha : a_knows E x y z = (0, 0) := by
            unfold a_knows
            repeat first | rw [if_pos (by omega)] | rw [if_neg (by omega)]
            first | done | rfl | (rfl)
          rw [ha]
          refine ⟨rfl, Or.inr ⟨rfl, ?_⟩⟩
          refine ⟨xE_rfl, ?_⟩
          rw [show u_knows E x y z = E from upr_id (by omega : nb E x y z = E.1 7 y.toNat)]
          exact hI
      · refine ⟨1, 0, by first | decide | omega, by first | decide | omega, en_Ct_f (X_isKnown (M := M) (E := E) hI hg (x := x) (y := y) (by omega) (by omega) (by omega) (by omega)) c5 ?_⟩
        refine br_ne (a := 0) (b := z) (by omega) (by omega) (fun q7 => ?_) (fun q7 => ?_)
        · refine aw_78_44 ?_
          refine ⟨y.toNat, it_nn (x := y) (by omega), (show y.toNat < 24 by omega), ?_⟩
          refine ⟨y.toNat, it_nn (x := y) (by omega), (show y.toNat < 24 by omega), ?_⟩
          have ha : a_knows E x y z = (0, 1) := by
            unfold a_knows
            repeat first | rw [if_pos (by omega)] | rw [if_neg (by omega)]
            first | done | rfl | (rfl)
          rw [ha]
          refine ⟨rfl, Or.inr ⟨rfl, ?_⟩⟩
          refine ⟨xE_w xE_rfl (by decide), ?_⟩
          rw [show u_knows E x y z = upr E 7 y.toNat (en_xor (M.1 8 y.toNat) (en_shl 1 x)) from congrArg (upr E 7 y.toNat) (by omega)]
          exact isE_w hI (r := 7) (by decide) _ _
        · have ha : a_knows E x y z = (0, 0) := by
            unfold a_knows
            repeat first | rw [if_pos (by omega)] | rw [if_neg (by omega)]
            first | done | rfl | (rfl)
          rw [ha]
          refine ⟨rfl, Or.inr ⟨rfl, ?_⟩⟩
          refine ⟨xE_rfl, ?_⟩
          rw [show u_knows E x y z = E from upr_id (by omega : nb E x y z = E.1 7 y.toNat)]
          exact hI
    · refine ⟨2, 0, by first | decide | omega, by first | decide | omega, en_Ct_f (X_isWord (M := M) (e := 1) (E := E) hI hg (x := y) (by omega)) c3 ?_⟩
      refine br_ne_n (by decide) (by decide) (by decide) ?_
      refine aw_78_22 ?_
      refine ⟨2, 0, by first | decide | omega, by first | decide | omega, en_Ct_eq (R_refX (-2) (by omega) M) ?_⟩
      have ha : a_knows E x y z = (1, (-2)) := by
        unfold a_knows
        repeat first | rw [if_pos (by omega)] | rw [if_neg (by omega)]
        first | done | rfl | (rfl)
      rw [ha]
      exact ⟨rfl, Or.inl ⟨by decide, sX_rfl⟩⟩
  · refine ⟨2, 0, by first | decide | omega, by first | decide | omega, en_Ct_f (X_isPerson (M := M) (e := 1) (E := E) hI hg (x := x) (by omega)) c1 ?_⟩
    refine br_eq_y (by decide) (by decide) (by decide) ?_
    refine aw_78_22 ?_
    refine ⟨2, 0, by first | decide | omega, by first | decide | omega, en_Ct_eq (R_refX (-2) (by omega) M) ?_⟩
    have ha : a_knows E x y z = (1, (-2)) := by
      unfold a_knows
      repeat first | rw [if_pos (by omega)] | rw [if_neg (by omega)]
      first | done | rfl | (rfl)
    rw [ha]
    exact ⟨rfl, Or.inl ⟨by decide, sX_rfl⟩⟩
theorem PM_knows (E : Ev) (M : Mm) (hJ : isM M 84 E) (hg : s_ok E) (x : Int) (y : Int) (z : Int) (hz01 : z = 0 ∨ z = 1) (hx : -2147483648 ≤ x ∧ x < 2147483648) (hy : -2147483648 ≤ y ∧ y < 2147483648) (hz : -2147483648 ≤ z ∧ z < 2147483648) : en_Ct 9 0 161 [.inr (.inr (1, 6, 84)), .inl x, .inl y, .inl z] M (fun r M' => r = some (.inl (a_knows E x y z).2) ∧ (((a_knows E x y z).1 ≠ 0 ∧ sM (aM M (a_knows E x y z).1) M') ∨ ((a_knows E x y z).1 = 0 ∧ mE M M' ∧ isM M' 84 (u_knows E x y z)))) := by
  obtain ⟨n0, n1, n2, a0, a1, a2, a3, a4, a5, a6, a7⟩ := hg.1
  have r0 : M.1 84 9 = E.1 0 0 := hJ.1.1
  have r1 : M.1 84 10 = E.1 0 1 := hJ.1.2.1
  have r2 : M.1 84 18 = E.1 0 2 := hJ.1.2.2.1
  have kk : (0 ≤ x ∧ x < E.1 0 2) → (0 ≤ y ∧ y < E.1 0 1) → _ := fun z1 z2 => kf (a := E.1 7 y.toNat) (p := x) (hg.2.1 y.toNat (by omega)).2.2.2.2.2.1.1 (hg.2.1 y.toNat (by omega)).2.2.2.2.2.1.2 z1.1 (by omega)
  have hnb : (z = 1 ∧ nb E x y z = en_or (E.1 7 y.toNat) (en_shl 1 x)) ∨ (z = 0 ∧ nb E x y z = en_and (E.1 7 y.toNat) (en_xor (en_shl 1 x) (-1))) := by
    rcases hz01 with hz | hz
    · exact Or.inr ⟨hz, by unfold nb; rw [if_neg (by omega)]⟩
    · exact Or.inl ⟨hz, by unfold nb; rw [if_pos hz]⟩
  have kw : (0 ≤ x ∧ x < E.1 0 2) → (0 ≤ y ∧ y < E.1 0 1) → 0 ≤ E.1 7 y.toNat ∧ E.1 7 y.toNat < 16 := fun z1 z2 => (hg.2.1 y.toNat (by omega)).2.2.2.2.2.1
  have e7 : M.1 106 y.toNat = E.1 7 y.toNat := congrFun (hJ.2.1.2.2.2 7 (by decide) (by decide)) _
  have hrd : ∀ v, (en_wI M 106 y.toNat v).1 106 y.toNat = v := fun v => by simp [en_wI]
  have hr1 := hrd (en_or (M.1 106 y.toNat) (en_shl 1 x))
  have hr2 := hrd (en_and (M.1 106 y.toNat) (en_xor (en_shl 1 x) (-1)))
  refine ct_161 rfl ?_
  refine aw_161_0 ?_
  by_cases c1 : 0 ≤ x ∧ x < E.1 0 2
  · refine ⟨2, 0, by first | decide | omega, by first | decide | omega, en_Ct_t (M_isPerson (M := M) (E := E) hJ hg (x := x) (by omega)) c1 ?_⟩
    refine br_eq_n (by decide) (by decide) (by decide) ?_
    by_cases c3 : 0 ≤ y ∧ y < E.1 0 1
    · refine ⟨2, 0, by first | decide | omega, by first | decide | omega, en_Ct_t (M_isWord (M := M) (E := E) hJ hg (x := y) (by omega)) c3 ?_⟩
      refine br_ne_y (by decide) (by decide) (by decide) ?_
      refine aw_161_23 ?_
      have z1 : 0 ≤ x ∧ x < E.1 0 2 := by omega
      have z2 : 0 ≤ y ∧ y < E.1 0 1 := by omega
      replace kk := kk z1 z2
      replace kw := kw z1 z2
      rw [← e7] at kk hnb kw
      refine ⟨y.toNat, it_nn (x := y) (by omega), (show y.toNat < 24 by omega), ?_⟩
      refine br_eq (a := z) (b := 0) (by omega) (by omega) (fun q5 => ?_) (fun q5 => ?_)
      · refine aw_161_49 ?_
        refine aw_161_57 ?_
        refine ⟨y.toNat, it_nn (x := y) (by omega), (show y.toNat < 24 by omega), ?_⟩
        refine ⟨y.toNat, it_nn (x := y) (by omega), (show y.toNat < 24 by omega), ?_⟩
        refine br_eq (a := (en_wI M 106 y.toNat (en_and (M.1 106 y.toNat) (en_xor (en_shl 1 x) (-1)))).1 106 y.toNat) (b := M.1 106 y.toNat) (by omega) (by omega) (fun q6 => ?_) (fun q6 => ?_)
        · refine aw_161_73 ?_
          refine aw_161_74 ?_
          have ha : a_knows E x y z = (0, 0) := by
            unfold a_knows
            repeat first | rw [if_pos (by omega)] | rw [if_neg (by omega)]
            first | done | rfl | (rfl)
          rw [ha]
          refine ⟨rfl, Or.inr ⟨rfl, ?_⟩⟩
          refine ⟨mE_w mE_rfl (by decide), ?_⟩
          rw [show u_knows E x y z = upr E 7 y.toNat (en_and (M.1 106 y.toNat) (en_xor (en_shl 1 x) (-1))) from congrArg (upr E 7 y.toNat) (by omega)]
          exact isM_w hJ (a := 106) (r := 7) (by decide) _ _
        · refine aw_161_74 ?_
          have ha : a_knows E x y z = (0, 1) := by
            unfold a_knows
            repeat first | rw [if_pos (by omega)] | rw [if_neg (by omega)]
            first | done | rfl | (rfl)
          rw [ha]
          refine ⟨rfl, Or.inr ⟨rfl, ?_⟩⟩
          refine ⟨mE_w mE_rfl (by decide), ?_⟩
          rw [show u_knows E x y z = upr E 7 y.toNat (en_and (M.1 106 y.toNat) (en_xor (en_shl 1 x) (-1))) from congrArg (upr E 7 y.toNat) (by omega)]
          exact isM_w hJ (a := 106) (r := 7) (by decide) _ _
      · refine aw_161_57 ?_
        refine ⟨y.toNat, it_nn (x := y) (by omega), (show y.toNat < 24 by omega), ?_⟩
        refine ⟨y.toNat, it_nn (x := y) (by omega), (show y.toNat < 24 by omega), ?_⟩
        refine br_eq (a := (en_wI M 106 y.toNat (en_or (M.1 106 y.toNat) (en_shl 1 x))).1 106 y.toNat) (b := M.1 106 y.toNat) (by omega) (by omega) (fun q7 => ?_) (fun q7 => ?_)
        · refine aw_161_73 ?_
          refine aw_161_74 ?_
          have ha : a_knows E x y z = (0, 0) := by
            unfold a_knows
            repeat first | rw [if_pos (by omega)] | rw [if_neg (by omega)]
            first | done | rfl | (rfl)
          rw [ha]
          refine ⟨rfl, Or.inr ⟨rfl, ?_⟩⟩
          refine ⟨mE_w mE_rfl (by decide), ?_⟩
          rw [show u_knows E x y z = upr E 7 y.toNat (en_or (M.1 106 y.toNat) (en_shl 1 x)) from congrArg (upr E 7 y.toNat) (by omega)]
          exact isM_w hJ (a := 106) (r := 7) (by decide) _ _
        · refine aw_161_74 ?_
          have ha : a_knows E x y z = (0, 1) := by
            unfold a_knows
            repeat first | rw [if_pos (by omega)] | rw [if_neg (by omega)]
            first | done | rfl | (rfl)
          rw [ha]
          refine ⟨rfl, Or.inr ⟨rfl, ?_⟩⟩
          refine ⟨mE_w mE_rfl (by decide), ?_⟩
          rw [show u_knows E x y z = upr E 7 y.toNat (en_or (M.1 106 y.toNat) (en_shl 1 x)) from congrArg (upr E 7 y.toNat) (by omega)]
          exact isM_w hJ (a := 106) (r := 7) (by decide) _ _
    · refine ⟨2, 0, by first | decide | omega, by first | decide | omega, en_Ct_f (M_isWord (M := M) (E := E) hJ hg (x := y) (by omega)) c3 ?_⟩
      refine br_ne_n (by decide) (by decide) (by decide) ?_
      refine aw_161_16 ?_
      refine ⟨1, 0, by first | decide | omega, by first | decide | omega, en_Ct_eq (R_refM (-2) (by omega) M) ?_⟩
      have ha : a_knows E x y z = (1, (-2)) := by
        unfold a_knows
        repeat first | rw [if_pos (by omega)] | rw [if_neg (by omega)]
        first | done | rfl | (rfl)
      rw [ha]
      exact ⟨rfl, Or.inl ⟨by decide, sM_rfl⟩⟩
  · refine ⟨2, 0, by first | decide | omega, by first | decide | omega, en_Ct_f (M_isPerson (M := M) (E := E) hJ hg (x := x) (by omega)) c1 ?_⟩
    refine br_eq_y (by decide) (by decide) (by decide) ?_
    refine aw_161_16 ?_
    refine ⟨1, 0, by first | decide | omega, by first | decide | omega, en_Ct_eq (R_refM (-2) (by omega) M) ?_⟩
    have ha : a_knows E x y z = (1, (-2)) := by
      unfold a_knows
      repeat first | rw [if_pos (by omega)] | rw [if_neg (by omega)]
      first | done | rfl | (rfl)
    rw [ha]
    exact ⟨rfl, Or.inl ⟨by decide, sM_rfl⟩⟩
theorem ea_knows {E F : Ev} (h : evs E F) (hg : s_ok E) {x : Int} {y : Int} {z : Int} : a_knows E x y z = a_knows F x y z := by
  have hb := hg.1.2.2.1
  have hw := hg.1.2.1
  unfold a_knows
  rw [← h.1 2 (by decide), ← h.1 1 (by decide)]
  by_cases hc : (0 ≤ x ∧ x < E.1 0 2) ∧ 0 ≤ y ∧ y < E.1 0 1
  · rw [if_pos hc, if_pos hc]
    unfold nb
    rw [ev_r h 7 (by decide) (by decide) (show y.toNat < 24 by omega)]
  · rw [if_neg hc, if_neg hc]
theorem eu_knows {E F : Ev} (h : evs E F) (hg : s_ok E) {x : Int} {y : Int} {z : Int} (hz01 : z = 0 ∨ z = 1) (h0 : (a_knows E x y z).1 = 0) : evs (u_knows E x y z) (u_knows F x y z) ∧ s_ok (u_knows E x y z) ∧ E.1 0 1 ≤ (u_knows E x y z).1 0 1 := by
  have hb := hg.1.2.2.1
  have hw := hg.1.2.1
  have hc : (0 ≤ x ∧ x < E.1 0 2) ∧ 0 ≤ y ∧ y < E.1 0 1 := by
    unfold a_knows at h0
    by_cases z1 : (0 ≤ x ∧ x < E.1 0 2) ∧ 0 ≤ y ∧ y < E.1 0 1
    · exact z1
    · rw [if_neg z1] at h0
      cases h0
  have hkw := (hg.2.1 y.toNat (by omega)).2.2.2.2.2.1
  have kk := kf (a := E.1 7 y.toNat) (p := x) hkw.1 hkw.2 hc.1.1 (by omega)
  have hnb : 0 ≤ nb E x y z ∧ nb E x y z < 16 := by unfold nb; split <;> omega
  have enb : nb F x y z = nb E x y z := by unfold nb; rw [ev_r h 7 (by decide) (by decide) (show y.toNat < 24 by omega)]
  unfold u_knows
  rw [enb]
  refine ⟨ev_upr h (by decide) _, ok_up hg (num_n hg.1 (by omega)) ?_ (by omega) (by decide) (by omega) (by omega), by rw [upr_n (by omega)]; exact Int.le_refl _⟩
  intro w hw2
  rw [upr_n (by omega)] at hw2
  have := hg.2.1 w hw2
  unfold s_word at this ⊢
  rw [upr_n (q := 0) (by omega), upr_n (q := 2) (by omega), upr_n (q := 3) (by omega), upr_n (q := 4) (by omega), upr_n (q := 5) (by omega), upr_n (q := 6) (by omega), upr_n (q := 8) (by omega)]
  by_cases hwy : w = y.toNat
  · subst hwy
    rw [upr_s]
    exact ⟨this.1, this.2.1, this.2.2.1, this.2.2.2.1, this.2.2.2.2.1, hnb, this.2.2.2.2.2.2⟩
  · rw [upr_n (q := 7) (by omega)]
    exact this
theorem S_knows {x : Int}  {y : Int}  {z : Int} (hz01 : z = 0 ∨ z = 1) (hx : -2147483648 ≤ x ∧ x < 2147483648) (hy : -2147483648 ≤ y ∧ y < 2147483648) (hz : -2147483648 ≤ z ∧ z < 2147483648) : sameC 78 161 [.inl x, .inl y, .inl z] := same_up (f := fun E => a_knows E x y z) (u := fun E => u_knows E x y z) (by decide) (by decide) (fun E M h1 h2 => PX_knows E M h1 h2 x y z hz01 hx hy hz) (fun E M h1 h2 => PM_knows E M h1 h2 x y z hz01 hx hy hz) (fun E F h1 h2 => ea_knows h1 h2) (fun E => by show (a_knows E x y z).1 ≤ 5; unfold a_knows; (repeat' split) <;> exact Nat.le_of_ble_eq_true rfl) (fun E F h1 h2 h3 => eu_knows h1 h2 hz01 h3)
