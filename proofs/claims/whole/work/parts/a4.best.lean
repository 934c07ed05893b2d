/-! the best sheet of evenings that say the same -/
theorem ins_c {c1 c2 : Nat → Int} {w : Nat} : ∀ l : List Nat, (∀ x ∈ l, c1 x = c2 x) → c1 w = c2 w → ins c1 w l = ins c2 w l
  | [], _, _ => rfl
  | a :: r, h, hw => by rw [ins, ins, h a (List.mem_cons_self ..), hw, ins_c r (fun x hx => h x (List.mem_cons_of_mem _ hx)) hw]
theorem all_c {f g : Nat → Bool} : ∀ l : List Nat, (∀ x ∈ l, f x = g x) → l.all f = l.all g
  | [], _ => rfl
  | a :: r, h => by rw [List.all_cons, List.all_cons, h a (List.mem_cons_self ..), all_c r (fun x hx => h x (List.mem_cons_of_mem _ hx))]
theorem ws_c {can can' : Nat → Bool} {cost cost' : Nat → Int} : ∀ (l : List Nat) (t : Int), (∀ w ∈ l, can w = can' w ∧ cost w = cost' w) → ws_ can cost l t = ws_ can' cost' l t
  | [], _, _ => rfl
  | w :: r, t, h => by
    have h1 := h w (List.mem_cons_self ..)
    have hr : ∀ v ∈ r, can v = can' v ∧ cost v = cost' v := fun v hv => h v (List.mem_cons_of_mem _ hv)
    rw [ws_, ws_, h1.1, h1.2, ws_c r _ hr, ws_c r _ hr]
theorem ws_in {can : Nat → Bool} {cost : Nat → Int} {x : Nat × Int} : ∀ (l : List Nat) (t : Int), x ∈ ws_ can cost l t → x.1 ∈ l
  | [], t, h => by simp [ws_] at h
  | w :: r, t, h => by
    unfold ws_ at h
    split at h
    · rcases List.mem_cons.mp h with z | z
      · subst z; exact List.mem_cons_self ..
      · exact List.mem_cons_of_mem _ (ws_in r _ z)
    · exact List.mem_cons_of_mem _ (ws_in r _ h)
section EB
variable {E F : Ev}
theorem ev_lnp (h : evs E F) {p : Nat} : ∀ n, n ≤ 24 → lnp E p n = lnp F p n
  | 0, _ => rfl
  | n + 1, hn => by
    rw [lnp, lnp, ev_lnp h n (by omega), ev_can h p (show n < 24 by omega), ins_c (c1 := s_cost E) (c2 := s_cost F) (w := n) (lnp F p n) (fun x hx => ev_cost h (by have := ((lnp_mem n).mp hx).1; omega)) (ev_cost h (show n < 24 by omega))]
theorem ev_lin (h : evs E F) (hg : s_ok E) {p : Nat} : lin E p = lin F p := by unfold lin; rw [← ev_ww h, ev_lnp h _ (ok_ww hg)]
theorem ev_lmp (h : evs E F) (hg : s_ok E) {p : Nat} : ∀ n, n ≤ 4 → lmp E p n = lmp F p n
  | 0, _ => by rw [lmp, lmp, h.2.1 2 (by decide)]
  | n + 1, hn => by rw [lmp, lmp, ev_lmp h hg n (by omega), ev_rdy h hg (show n < 4 by omega)]
theorem ev_lim (h : evs E F) (hg : s_ok E) {p : Nat} : lim E p = lim F p := by unfold lim; rw [← ev_pp h, ev_lmp h hg _ (ok_pp hg)]
theorem ev_owq (h : evs E F) (hg : s_ok E) {q : Nat} (hq : q < 4) : owq E q = owq F q := by
  unfold owq
  have h24 := shl_24 hg hq
  rw [← ev_shl h hg hq, ws_c (can := s_can E q) (cost := s_cost E) (can' := s_can F q) (cost' := s_cost F) _ _ (fun w hw => ⟨ev_can h q (h24 w hw), ev_cost h (h24 w hw)⟩)]
  exact List.filter_congr (fun x hx => ev_vote h (h24 x.1 (ws_in _ _ hx)))
theorem ev_owl (h : evs E F) (hg : s_ok E) {p : Nat} : ∀ n, n ≤ 4 → owl E p n = owl F p n
  | 0, _ => rfl
  | n + 1, hn => by rw [owl, owl, ev_owl h hg n (by omega), ev_owq h hg (show n < 4 by omega)]
theorem ev_oth (h : evs E F) (hg : s_ok E) {p : Nat} : oth E p = oth F p := by unfold oth; rw [← ev_pp h, ev_owl h hg _ (ok_pp hg)]
theorem kcb_c (h : evs E F) {c : Int} : ∀ L : List (Nat × Int), (∀ x ∈ L, x.1 < 24) → kcb E c L = kcb F c L
  | [], _ => rfl
  | a :: r, hL => by rw [kcb, kcb, ev_r h 4 (by decide) (by decide) (hL a (List.mem_cons_self ..)), kcb_c h r (fun x hx => hL x (List.mem_cons_of_mem _ hx))]
theorem ev_gv (h : evs E F) (hg : s_ok E) {p w : Nat} {c : Int} (hw : w < 24) : gv E p c w = gv F p c w := by
  unfold gv wta
  rw [ev_vote h hw, ← ev_oth h hg, ← kcb_c h _ (fun x hx => (oth_b hg x hx).1.1), ev_r h 4 (by decide) (by decide) hw, h.2.1 3 (by decide), h.2.1 4 (by decide), h.2.1 5 (by decide)]
theorem exw_c (h : evs E F) {L : Int} : ∀ (r : List Nat) (d : Nat) (t : Int) (pre : List Nat), (∀ w ∈ r, w < 24) → (∀ w ∈ pre, w < 24) → exw E L d r t pre = exw F L d r t pre
  | [], d, t, pre, _, _ => by rw [exw_nil, exw_nil]
  | w :: r, 0, t, pre, _, _ => by rw [exw_0, exw_0]
  | w :: r, d + 1, t, pre, hr, hp => by
    have hw := hr w (List.mem_cons_self ..)
    have hr' : ∀ v ∈ r, v < 24 := fun v hv => hr v (List.mem_cons_of_mem _ hv)
    have hp' : ∀ v ∈ pre ++ [w], v < 24 := fun v hv => by
      rcases List.mem_append.mp hv with z | z
      · exact hp v z
      · rw [List.mem_singleton] at z; rw [z]; exact hw
    rw [exw_s, exw_s, ev_cost h hw, exw_c h r d _ (pre ++ [w]) hr' hp', exw_c h r (d + 1) t pre hr' hp, all_c pre (fun v hv => by rw [ev_r h 4 (by decide) (by decide) (hp v hv), ev_r h 4 (by decide) (by decide) hw])]
theorem ev_bst (h : evs E F) (hg : s_ok E) {p : Nat} : bst E p = bst F p := by
  have hl24 : ∀ w ∈ lin E p, w < 24 := fun w hw => by
    have := (lin_mem.mp hw).1
    have := hg.1.2.1
    omega
  have key : ∀ (X : List (List Nat × Int)) (s : Int × Nat × Int), (∀ x ∈ X, ∀ w ∈ x.1, w < 24) → X.foldl (stp E p) s = X.foldl (stp F p) s := by
    intro X
    induction X with
    | nil => intro s _; rfl
    | cons x r ih =>
      intro s hx
      have e : stp E p s x = stp F p s x := by
        unfold stp
        rw [← h.2.1 1 (by decide), ← ev_lim h hg, sm_c (g := gv E p _) (h := gv F p _) x.1 (fun w hw => ev_gv h hg (hx x (List.mem_cons_self ..) w hw))]
      rw [List.foldl_cons, List.foldl_cons, e]
      exact ih _ (fun y hy => hx y (List.mem_cons_of_mem _ hy))
  unfold bst
  rw [← h.2.1 1 (by decide), ← ev_lim h hg, ← ev_lin h hg, ← exw_c h (lin E p) _ 0 [] hl24 (fun w hw => absurd hw List.not_mem_nil)]
  refine key _ _ (fun x hx w hw => ?_)
  obtain ⟨a, a1, a2, -⟩ := exw_snd _ _ _ _ x List.Pairwise.nil hx
  rw [List.nil_append] at a1
  exact hl24 w (a2.subset (by rw [← a1]; exact hw))
theorem ev_ub (h : evs E F) (hg : s_ok E) {p : Nat} : evs (u_best E p) (u_best F p) := by
  unfold u_best
  have e : lf E p (bst E p).2.1 = lf F p (bst F p).2.1 := by unfold lf; rw [ev_bst h hg, ev_lin h hg]
  rw [← e]
  exact ev_sh h (fun _ _ => rfl)
end EB
theorem ok_ub {E : Ev} (hg : s_ok E) {p : Nat} : s_ok (u_best E p) := ok_shE hg (bst_lf hg).1
def vb3 (E : Ev) (p : Nat) (t : Int) : Int := if t = 0 then (bst E p).1 else if t = 1 then (((bst E p).2.1 : Nat) : Int) else (bst E p).2.2
def a_best (E : Ev) (x : Int) (t : Int) : Nat × Int := if (0 ≤ x ∧ x < E.1 0 2) ∧ (0 ≤ t ∧ t ≤ 2) then (0, vb3 E x.toNat t) else (1, -2)
theorem PX_best (E : Ev) (M : Mm) (hI : isE M 1 E) (hg : s_ok E) (x : Int) (t : Int) (hx : -2147483648 ≤ x ∧ x < 2147483648) (ht : -2147483648 ≤ t ∧ t < 2147483648) : en_Ct 12 0 93 [.inr (.inr (1, 5, 0)), .inl x, .inl t] M (fun r M' => r = some (.inl (a_best E x t).2) ∧ sX (aX M (a_best E x t).1) M') := by
  obtain ⟨n0, n1, n2, a0, a1, a2, a3, a4, a5, a6, a7⟩ := hg.1
  have r0 : M.1 1 0 = E.1 0 0 := r0_I hI 0
  have r1 : M.1 1 1 = E.1 0 1 := r0_I hI 1
  have r2 : M.1 1 2 = E.1 0 2 := r0_I hI 2
  refine ct_93 rfl ?_
  refine aw_93_0 ?_
  by_cases c1 : 0 ≤ x ∧ x < E.1 0 2
  · refine ⟨2, 0, by first | decide | omega, by first | decide | omega, en_Ct_t (X_isPerson (M := M) (e := 1) (E := E) hI hg (x := x) (by omega)) c1 ?_⟩
    refine br_eq_n (by decide) (by decide) (by decide) ?_
    by_cases c3 : 0 ≤ t ∧ t ≤ 2
    · refine ⟨1, 0, by first | decide | omega, by first | decide | omega, en_Ct_t (R_within t 0 2 (by omega) (by omega) (by omega) _) c3 ?_⟩
      refine br_ne_y (by decide) (by decide) (by decide) ?_
      obtain ⟨p, rfl⟩ := Int.eq_ofNat_of_zero_le (show 0 ≤ x by omega)
      refine aw_93_27 ?_
      refine ⟨9, 0, by first | decide | omega, by first | decide | omega, en_Ct_mono (R_find 1 E M hI hg (by decide) p (by omega)) ?_⟩
      rintro _ K1 ⟨rfl, hF1, hS1, hsB, hLn1⟩
      obtain ⟨w0, w1, w2⟩ := hS1
      refine br_ne (a := t) (b := 0) (by omega) (by omega) (fun q1 => ?_) (fun q1 => ?_)
      · refine aw_93_51 ?_
        refine br_ne (a := t) (b := 1) (by omega) (by omega) (fun q2 => ?_) (fun q2 => ?_)
        · refine aw_93_66 ?_
          refine aw_93_73 ?_
          have ha : a_best E p t = (0, K1.1 52 2) := by
            unfold a_best vb3
            rw [if_pos (by omega), Int.toNat_natCast, w2]
            refine congrArg (fun z : Int => ((0 : Nat), z)) ?_
            repeat first | rw [if_pos (by omega)] | rw [if_neg (by omega)]
          rw [ha]
          exact ⟨rfl, sX_fr hF1 (by decide) (by decide)⟩
        · refine aw_93_73 ?_
          have ha : a_best E p t = (0, K1.1 52 1) := by
            unfold a_best vb3
            rw [if_pos (by omega), Int.toNat_natCast, w1]
            refine congrArg (fun z : Int => ((0 : Nat), z)) ?_
            repeat first | rw [if_pos (by omega)] | rw [if_neg (by omega)]
          rw [ha]
          exact ⟨rfl, sX_fr hF1 (by decide) (by decide)⟩
      · have ha : a_best E p t = (0, K1.1 52 0) := by
          unfold a_best vb3
          rw [if_pos (by omega), Int.toNat_natCast, w0]
          refine congrArg (fun z : Int => ((0 : Nat), z)) ?_
          repeat first | rw [if_pos (by omega)] | rw [if_neg (by omega)]
        rw [ha]
        exact ⟨rfl, sX_fr hF1 (by decide) (by decide)⟩
    · refine ⟨1, 0, by first | decide | omega, by first | decide | omega, en_Ct_f (R_within t 0 2 (by omega) (by omega) (by omega) _) c3 ?_⟩
      refine br_ne_n (by decide) (by decide) (by decide) ?_
      refine aw_93_20 ?_
      refine ⟨2, 0, by first | decide | omega, by first | decide | omega, en_Ct_eq (R_refX (-2) (by omega) M) ?_⟩
      have ha : a_best E x t = (1, (-2)) := by
        unfold a_best
        repeat first | rw [if_pos (by omega)] | rw [if_neg (by omega)]
        first | done | rfl | (rfl)
      rw [ha]
      exact ⟨rfl, sX_rfl⟩
  · refine ⟨2, 0, by first | decide | omega, by first | decide | omega, en_Ct_f (X_isPerson (M := M) (e := 1) (E := E) hI hg (x := x) (by omega)) c1 ?_⟩
    refine br_eq_y (by decide) (by decide) (by decide) ?_
    refine aw_93_20 ?_
    refine ⟨2, 0, by first | decide | omega, by first | decide | omega, en_Ct_eq (R_refX (-2) (by omega) M) ?_⟩
    have ha : a_best E x t = (1, (-2)) := by
      unfold a_best
      repeat first | rw [if_pos (by omega)] | rw [if_neg (by omega)]
      first | done | rfl | (rfl)
    rw [ha]
    exact ⟨rfl, sX_rfl⟩
theorem ea_best {E F : Ev} (h : evs E F) (hg : s_ok E) {x : Int} {t : Int} : a_best E x t = a_best F x t := by
  have hb := hg.1.2.2.1
  have hw := hg.1.2.1
  unfold a_best
  rw [← h.1 2 (by decide)]
  unfold vb3
  rw [ev_bst h hg]
theorem PM_best (hF : freshC) (E : Ev) (M : Mm) (hJ : isM M 84 E) (hg : s_ok E) (bm : Nat) (hbm : (if M.1 84 25 = 0 then 1 else 0) = bm) (x : Int) (t : Int) (hx : -2147483648 ≤ x ∧ x < 2147483648) (ht : -2147483648 ≤ t ∧ t < 2147483648) (hacc : (0 ≤ x ∧ x < E.1 0 2) ∧ (0 ≤ t ∧ t ≤ 2)) : en_Ct 20 bm 217 [.inr (.inr (1, 6, 84)), .inl x, .inl t] M (fun r M' => r = some (.inl (a_best E x t).2) ∧ bm + bl M' ≤ bl M ∧ mF M M' ∧ isM M' 84 E) := by
  obtain ⟨n0, n1, n2, a0, a1, a2, a3, a4, a5, a6, a7⟩ := hg.1
  have r0 : M.1 84 9 = E.1 0 0 := hJ.1.1
  have r1 : M.1 84 10 = E.1 0 1 := hJ.1.2.1
  have r2 : M.1 84 18 = E.1 0 2 := hJ.1.2.2.1
  refine ct_217 rfl ?_
  refine aw_217_0 ?_
  by_cases c1 : 0 ≤ x ∧ x < E.1 0 2
  · refine ⟨2, 0, by first | decide | omega, by first | decide | omega, en_Ct_t (M_isPerson (M := M) (E := E) hJ hg (x := x) (by omega)) c1 ?_⟩
    refine br_eq_n (by decide) (by decide) (by decide) ?_
    by_cases c3 : 0 ≤ t ∧ t ≤ 2
    · refine ⟨1, 0, by first | decide | omega, by first | decide | omega, en_Ct_t (R_in (en_wr t) 0 2 t 0 2 (wl_wr ⟨by omega, by omega⟩) (wl_of ⟨by omega, by omega⟩) (wl_of ⟨by omega, by omega⟩) _) c3 ?_⟩
      refine br_ne_y (by decide) (by decide) (by decide) ?_
      obtain ⟨p, rfl⟩ := Int.eq_ofNat_of_zero_le (show 0 ≤ x by omega)
      refine aw_217_27 ?_
      refine ⟨8, bm, by first | decide | omega, by first | decide | omega, en_Ct_mono (hbm ▸ hF M) ?_⟩
      rintro _ N ⟨rfl, hN⟩
      obtain ⟨hJN, hev, hg3⟩ := fr_ev hJ hg hN
      refine ⟨14, 0, by first | decide | omega, by first | decide | omega, en_Ct_mono (R_findBest 121 (vM N 121) hg3 p (by have := hev.1 2 (by decide); omega) N (isQ_M isM_self)) ?_⟩
      rintro _ K ⟨rfl, hFT, hQT, w0, w1, w2⟩
      rw [ev_bst hev hg3] at w0 w1 w2
      refine br_ne (a := t) (b := 0) (by omega) (by omega) (fun q1 => ?_) (fun q1 => ?_)
      · refine aw_217_48 ?_
        refine br_ne (a := t) (b := 1) (by omega) (by omega) (fun q2 => ?_) (fun q2 => ?_)
        · refine aw_217_60 ?_
          refine aw_217_64 ?_
          have ha : a_best E p t = (0, K.1 121 37) := by
            unfold a_best vb3
            rw [if_pos (by omega), Int.toNat_natCast, w2]
            refine congrArg (fun z : Int => ((0 : Nat), z)) ?_
            repeat first | rw [if_pos (by omega)] | rw [if_neg (by omega)]
          rw [ha]
          have hK : ∀ a, a < 121 ∨ 158 ≤ a → K.1 a = N.1 a := fun a ha => hFT.1 a (by omega) (by omega) (by omega) (by omega)
          obtain ⟨m1, m2⟩ := fr_mF hN hK (fun a _ => by rw [hFT.2.2])
          exact ⟨rfl, by rw [← hbm]; exact m2, m1, isM_fr hJN (fun i _ => by rw [hK 84 (by decide)]) (fun a h0 h1 => hK a (by omega))⟩
        · refine aw_217_64 ?_
          have ha : a_best E p t = (0, K.1 121 35) := by
            unfold a_best vb3
            rw [if_pos (by omega), Int.toNat_natCast, w1]
            refine congrArg (fun z : Int => ((0 : Nat), z)) ?_
            repeat first | rw [if_pos (by omega)] | rw [if_neg (by omega)]
          rw [ha]
          have hK : ∀ a, a < 121 ∨ 158 ≤ a → K.1 a = N.1 a := fun a ha => hFT.1 a (by omega) (by omega) (by omega) (by omega)
          obtain ⟨m1, m2⟩ := fr_mF hN hK (fun a _ => by rw [hFT.2.2])
          exact ⟨rfl, by rw [← hbm]; exact m2, m1, isM_fr hJN (fun i _ => by rw [hK 84 (by decide)]) (fun a h0 h1 => hK a (by omega))⟩
      · refine aw_217_64 ?_
        have ha : a_best E p t = (0, K.1 121 36) := by
          unfold a_best vb3
          rw [if_pos (by omega), Int.toNat_natCast, w0]
          refine congrArg (fun z : Int => ((0 : Nat), z)) ?_
          repeat first | rw [if_pos (by omega)] | rw [if_neg (by omega)]
        rw [ha]
        have hK : ∀ a, a < 121 ∨ 158 ≤ a → K.1 a = N.1 a := fun a ha => hFT.1 a (by omega) (by omega) (by omega) (by omega)
        obtain ⟨m1, m2⟩ := fr_mF hN hK (fun a _ => by rw [hFT.2.2])
        exact ⟨rfl, by rw [← hbm]; exact m2, m1, isM_fr hJN (fun i _ => by rw [hK 84 (by decide)]) (fun a h0 h1 => hK a (by omega))⟩
    · refine ⟨1, 0, by first | decide | omega, by first | decide | omega, en_Ct_f (R_in (en_wr t) 0 2 t 0 2 (wl_wr ⟨by omega, by omega⟩) (wl_of ⟨by omega, by omega⟩) (wl_of ⟨by omega, by omega⟩) _) c3 ?_⟩
      refine br_ne_n (by decide) (by decide) (by decide) ?_
      refine aw_217_20 ?_
      refine ⟨1, 0, by first | decide | omega, by first | decide | omega, en_Ct_eq (R_refM (-2) (by omega) M) ?_⟩
      exfalso
      omega
  · refine ⟨2, 0, by first | decide | omega, by first | decide | omega, en_Ct_f (M_isPerson (M := M) (E := E) hJ hg (x := x) (by omega)) c1 ?_⟩
    refine br_eq_y (by decide) (by decide) (by decide) ?_
    refine aw_217_20 ?_
    refine ⟨1, 0, by first | decide | omega, by first | decide | omega, en_Ct_eq (R_refM (-2) (by omega) M) ?_⟩
    exfalso
    omega
theorem PMr_best (E : Ev) (M : Mm) (hJ : isM M 84 E) (hg : s_ok E) (x : Int) (t : Int) (hx : -2147483648 ≤ x ∧ x < 2147483648) (ht : -2147483648 ≤ t ∧ t < 2147483648) (hacc : ¬ ((0 ≤ x ∧ x < E.1 0 2) ∧ (0 ≤ t ∧ t ≤ 2))) : en_Ct 20 0 217 [.inr (.inr (1, 6, 84)), .inl x, .inl t] M (fun r M' => r = some (.inl (-2)) ∧ M' = rfM M 0) := by
  obtain ⟨n0, n1, n2, a0, a1, a2, a3, a4, a5, a6, a7⟩ := hg.1
  have r0 : M.1 84 9 = E.1 0 0 := hJ.1.1
  have r1 : M.1 84 10 = E.1 0 1 := hJ.1.2.1
  have r2 : M.1 84 18 = E.1 0 2 := hJ.1.2.2.1
  refine ct_217 rfl ?_
  refine aw_217_0 ?_
  by_cases c1 : 0 ≤ x ∧ x < E.1 0 2
  · refine ⟨2, 0, by first | decide | omega, by first | decide | omega, en_Ct_t (M_isPerson (M := M) (E := E) hJ hg (x := x) (by omega)) c1 ?_⟩
    refine br_eq_n (by decide) (by decide) (by decide) ?_
    by_cases c3 : 0 ≤ t ∧ t ≤ 2
    · refine ⟨1, 0, by first | decide | omega, by first | decide | omega, en_Ct_t (R_in (en_wr t) 0 2 t 0 2 (wl_wr ⟨by omega, by omega⟩) (wl_of ⟨by omega, by omega⟩) (wl_of ⟨by omega, by omega⟩) _) c3 ?_⟩
      refine br_ne_y (by decide) (by decide) (by decide) ?_
      exfalso
      omega
    · refine ⟨1, 0, by first | decide | omega, by first | decide | omega, en_Ct_f (R_in (en_wr t) 0 2 t 0 2 (wl_wr ⟨by omega, by omega⟩) (wl_of ⟨by omega, by omega⟩) (wl_of ⟨by omega, by omega⟩) _) c3 ?_⟩
      refine br_ne_n (by decide) (by decide) (by decide) ?_
      refine aw_217_20 ?_
      refine ⟨1, 0, by first | decide | omega, by first | decide | omega, en_Ct_eq (R_refM (-2) (by omega) M) ?_⟩
      exact ⟨rfl, rfl⟩
  · refine ⟨2, 0, by first | decide | omega, by first | decide | omega, en_Ct_f (M_isPerson (M := M) (E := E) hJ hg (x := x) (by omega)) c1 ?_⟩
    refine br_eq_y (by decide) (by decide) (by decide) ?_
    refine aw_217_20 ?_
    refine ⟨1, 0, by first | decide | omega, by first | decide | omega, en_Ct_eq (R_refM (-2) (by omega) M) ?_⟩
    exact ⟨rfl, rfl⟩
theorem S_best (hF : freshC) {x t : Int} (hx : -2147483648 ≤ x ∧ x < 2147483648) (ht : -2147483648 ≤ t ∧ t < 2147483648) : sameC 93 217 [.inl x, .inl t] := same_fr (hx := 12) (hm := 20) (f := fun E => a_best E x t) (by decide) (by decide) (fun E M h1 h2 => PX_best E M h1 h2 x t hx ht) (fun E M bm h1 h2 h3 h4 => PM_best hF E M h1 h2 bm h3 x t hx ht (by
    have h4 : (a_best E x t).1 = 0 := h4
    unfold a_best at h4
    by_cases z : (0 ≤ x ∧ x < E.1 0 2) ∧ (0 ≤ t ∧ t ≤ 2)
    · exact z
    · rw [if_neg z] at h4; cases h4)) (fun E M h1 h2 h3 => by
    have h3 : (a_best E x t).1 ≠ 0 := h3
    have hz : ¬ ((0 ≤ x ∧ x < E.1 0 2) ∧ (0 ≤ t ∧ t ≤ 2)) := fun z => h3 (by unfold a_best; rw [if_pos z])
    have ha : a_best E x t = (1, -2) := by unfold a_best; rw [if_neg hz]
    refine en_Ct_mono (PMr_best E M h1 h2 x t hx ht hz) ?_
    rintro r M' ⟨rfl, rfl⟩
    show _ = some (Sum.inl (a_best E x t).2) ∧ sM (aM M (a_best E x t).1) _
    rw [ha]
    exact ⟨rfl, sM_rfl⟩) (fun E F h1 h2 => ea_best h1 h2) (fun E => by show (a_best E x t).1 ≤ 5; unfold a_best; (repeat' split) <;> exact Nat.le_of_ble_eq_true rfl)
