theorem s_us_le {E : Ev} : ∀ n, s_us E n ≤ n
  | 0 => Nat.le_refl 0
  | n + 1 => by
    have := s_us_le (E := E) n
    unfold s_us
    split <;> omega
theorem L_usedMany {post : Option AV → Mm → Prop} (E : Ev) (M : Mm) (hJ : isM M 84 E) (hg : s_ok E) (hq : post (some (.inl ((s_us E (E.1 0 1).toNat : Nat) : Int))) M) : ∀ (n : Nat) (i : Nat), (((i : Nat) : Int) + ((n : Nat) : Int) = E.1 0 1) → en_AW 1 0 234 post 4 [some (.inr (.inr (1, 6, 84))), some (.inl ((s_us E i : Nat) : Int)), some (.inl ((i : Nat) : Int))] [] M 0 := by
  intro n
  induction n with
  | zero =>
    intro i hi
    obtain ⟨n0, n1, n2, a0, a1, a2, a3, a4, a5, a6, a7⟩ := hg.1
    have r0 : M.1 84 9 = E.1 0 0 := hJ.1.1
    have r1 : M.1 84 10 = E.1 0 1 := hJ.1.2.1
    have r2 : M.1 84 18 = E.1 0 2 := hJ.1.2.2.1
    refine aw_234_4 ?_
    refine br_ge_y (a := ((i : Nat) : Int)) (b := M.1 84 10) (by omega) (by omega) (by omega) ?_
    refine aw_234_27 ?_
    rw [show (E.1 0 1).toNat = i by omega] at hq
    exact hq
  | succ n ih =>
    intro i hi
    obtain ⟨n0, n1, n2, a0, a1, a2, a3, a4, a5, a6, a7⟩ := hg.1
    have r0 : M.1 84 9 = E.1 0 0 := hJ.1.1
    have r1 : M.1 84 10 = E.1 0 1 := hJ.1.2.1
    have r2 : M.1 84 18 = E.1 0 2 := hJ.1.2.2.1
    have e8 : M.1 107 i = E.1 8 i := congrFun (hJ.2.1.2.2.2 8 (by decide) (by decide)) i
    have g8 := hg.2.2.2.2 i (by omega)
    have hb := s_us_le (E := E) i
    refine aw_234_4 ?_
    refine br_ge_n (a := ((i : Nat) : Int)) (b := M.1 84 10) (by omega) (by omega) (by omega) ?_
    refine ⟨i, rfl, (show i < 24 by omega), ?_⟩
    refine en_AW_ls (congrArg (fun z_ : Int => ([some (.inr (.inr (1, 6, 84))), some (.inl z_), some (.inl (((i : Nat) : Int) + 1))] : AL)) (show ((s_us E i : Nat) : Int) + (M.1 107 i) = ((s_us E (i + 1) : Nat) : Int) from by rw [s_us]; by_cases z : E.1 8 i = 0; (· rw [if_pos z]; omega); (· rw [if_neg z]; omega))) ?_
    exact ih (i + 1) (by omega)
theorem R_usedMany (E : Ev) (M : Mm) (hJ : isM M 84 E) (hg : s_ok E) : en_Ct 1 0 234 [.inr (.inr (1, 6, 84))] M (fun r M' => r = some (.inl (((s_us E (E.1 0 1).toNat : Nat) : Int))) ∧ M' = M) := by
  obtain ⟨n0, n1, n2, a0, a1, a2, a3, a4, a5, a6, a7⟩ := hg.1
  have r0 : M.1 84 9 = E.1 0 0 := hJ.1.1
  have r1 : M.1 84 10 = E.1 0 1 := hJ.1.2.1
  have r2 : M.1 84 18 = E.1 0 2 := hJ.1.2.2.1
  refine ct_234 rfl ?_
  refine aw_234_0 ?_
  exact L_usedMany E M hJ hg ⟨rfl, rfl⟩ (E.1 0 1).toNat 0 (by omega)
theorem X_us {M : Mm} {E : Ev} (h : isE M 1 E) (hg : s_ok E) : en_Ct 1 0 35 [.inr (.inr (1, 1, 1))] M (fun r M' => r = some (.inl ((s_us E (E.1 0 1).toNat : Nat) : Int)) ∧ M' = M) := by
  have := R_us 1 M (tr_num h hg.1) (tr_wok h hg.2.1)
  rw [r0_I h, ev_us (isE_evs h) _ (ok_ww hg)] at this
  exact this
def a_again (E : Ev)  : Nat × Int := (0, ((s_us E (E.1 0 1).toNat : Nat) : Int))
def u_again (E : Ev)  : Ev := zE (zE (zE E 8 (E.1 0 1).toNat) 15 (E.1 0 2).toNat) 14 (E.1 0 2).toNat
theorem PX_again (E : Ev) (M : Mm) (hI : isE M 1 E) (hg : s_ok E)    : en_Ct 9 0 114 [.inr (.inr (1, 5, 0))] M (fun r M' => r = some (.inl (a_again E ).2) ∧ (((a_again E ).1 ≠ 0 ∧ sX (aX M (a_again E ).1) M') ∨ ((a_again E ).1 = 0 ∧ xE M M' ∧ isE M' 1 (u_again E )))) := by
  obtain ⟨n0, n1, n2, a0, a1, a2, a3, a4, a5, a6, a7⟩ := hg.1
  have r0 : M.1 1 0 = E.1 0 0 := r0_I hI 0
  have r1 : M.1 1 1 = E.1 0 1 := r0_I hI 1
  have r2 : M.1 1 2 = E.1 0 2 := r0_I hI 2
  refine ct_114 rfl ?_
  refine aw_114_0 ?_
  refine ⟨1, 0, by first | decide | omega, by first | decide | omega, en_Ct_eq (X_us (M := M) (E := E) hI hg) ?_⟩
  refine en_AW_M (pr_0 (M := M) (a := 9) (f := z0)).symm ?_
  refine L_again1X M _ (E.1 0 1).toNat (by omega) (by omega) ?_ (E.1 0 1).toNat 0 (by omega)
  refine aw_114_37 ?_
  refine en_AW_M (show pr M 9 z0 (E.1 0 1).toNat = pr (pr (pr M 9 z0 (E.1 0 1).toNat) 16 z0 0) 15 z0 0 from by rw [pr_0, pr_0]) ?_
  refine L_again2X (pr M 9 z0 (E.1 0 1).toNat) _ (E.1 0 2).toNat (by rw [pr_ne (by decide)]; omega) (by omega) ?_ (E.1 0 2).toNat 0 (by omega)
  have ha : a_again E = (0, ((s_us E (E.1 0 1).toNat : Nat) : Int)) := rfl
  rw [ha]
  exact ⟨rfl, Or.inr ⟨rfl, xE_p (xE_p (xE_p xE_rfl (by decide)) (by decide)) (by decide), isE_z (isE_z (isE_z hI (r := 8) (by decide) _) (r := 15) (by decide) _) (r := 14) (by decide) _⟩⟩
theorem PM_again (E : Ev) (M : Mm) (hJ : isM M 84 E) (hg : s_ok E)    : en_Ct 9 0 235 [.inr (.inr (1, 6, 84))] M (fun r M' => r = some (.inl (a_again E ).2) ∧ (((a_again E ).1 ≠ 0 ∧ sM (aM M (a_again E ).1) M') ∨ ((a_again E ).1 = 0 ∧ mE M M' ∧ isM M' 84 (u_again E )))) := by
  obtain ⟨n0, n1, n2, a0, a1, a2, a3, a4, a5, a6, a7⟩ := hg.1
  have r0 : M.1 84 9 = E.1 0 0 := hJ.1.1
  have r1 : M.1 84 10 = E.1 0 1 := hJ.1.2.1
  have r2 : M.1 84 18 = E.1 0 2 := hJ.1.2.2.1
  refine ct_235 rfl ?_
  refine aw_235_0 ?_
  refine ⟨1, 0, by first | decide | omega, by first | decide | omega, en_Ct_eq (R_usedMany E M hJ hg) ?_⟩
  refine en_AW_M (pr_0 (M := M) (a := 107) (f := z0)).symm ?_
  refine L_again1M M _ (E.1 0 1).toNat (by omega) (by omega) ?_ (E.1 0 1).toNat 0 (by omega)
  refine aw_235_28 ?_
  refine en_AW_M (show pr M 107 z0 (E.1 0 1).toNat = pr (pr (pr M 107 z0 (E.1 0 1).toNat) 114 z0 0) 113 z0 0 from by rw [pr_0, pr_0]) ?_
  refine L_again2M (pr M 107 z0 (E.1 0 1).toNat) _ (E.1 0 2).toNat (by rw [pr_ne (by decide)]; omega) (by omega) ?_ (E.1 0 2).toNat 0 (by omega)
  have ha : a_again E = (0, ((s_us E (E.1 0 1).toNat : Nat) : Int)) := rfl
  rw [ha]
  exact ⟨rfl, Or.inr ⟨rfl, mE_p (mE_p (mE_p mE_rfl (by decide)) (by decide)) (by decide), isM_z (isM_z (isM_z hJ (a := 107) (r := 8) (by decide) _) (a := 114) (r := 15) (by decide) _) (a := 113) (r := 14) (by decide) _⟩⟩
theorem ea_again {E F : Ev} (h : evs E F) (hg : s_ok E)  : a_again E  = a_again F  := by
  have hb := hg.1.2.2.1
  have hw := hg.1.2.1
  unfold a_again
  rw [← ev_ww h, ev_us h _ (ok_ww hg)]
theorem eu_again {E F : Ev} (h : evs E F) (hg : s_ok E)   (h0 : (a_again E ).1 = 0) : evs (u_again E ) (u_again F ) ∧ s_ok (u_again E ) ∧ E.1 0 1 ≤ (u_again E ).1 0 1 := by
  have hb := hg.1.2.2.1
  have hw := hg.1.2.1
  have h14 : ∀ p, p < 4 → 0 ≤ E.1 14 p := fun p hp => (hg.2.2.1 p hp).1.1
  unfold u_again
  rw [← ev_ww h, ← ev_pp h]
  refine ⟨ev_z (ev_z (ev_z h h14) (fun p hp => by rw [zE_n (by omega)]; exact h14 p hp)) (fun p hp => by rw [zE_n (by omega), zE_n (by omega)]; exact h14 p hp), ok_z (ok_z (ok_z hg (by omega)) (by omega)) (by omega), ?_⟩
  rw [zE_n (by omega), zE_n (by omega), zE_n (by omega)]
  exact Int.le_refl _
theorem S_again   : sameC 114 235 [] := same_up (f := fun E => a_again E ) (u := fun E => u_again E ) (by decide) (by decide) (fun E M h1 h2 => PX_again E M h1 h2   ) (fun E M h1 h2 => PM_again E M h1 h2   ) (fun E F h1 h2 => ea_again h1 h2) (fun E => by show (a_again E ).1 ≤ 5; unfold a_again; (repeat' split) <;> exact Nat.le_of_ble_eq_true rfl) (fun E F h1 h2 h3 => eu_again h1 h2  h3)
