/-! what a round comes to -/
def fr (lo hi : Nat) (M M' : Mm) : Prop := M'.2 = M.2 ∧ ∀ a, a < lo ∨ hi ≤ a → M'.1 a = M.1 a
theorem fr_rfl {lo hi : Nat} {M : Mm} : fr lo hi M M := ⟨rfl, fun _ _ => rfl⟩
theorem fr_tr {lo hi : Nat} {M M1 M2 : Mm} (h : fr lo hi M M1) (h' : fr lo hi M1 M2) : fr lo hi M M2 := ⟨h'.1.trans h.1, fun a ha => (h'.2 a ha).trans (h.2 a ha)⟩
theorem fr_w {lo hi : Nat} {M M1 : Mm} {a i : Nat} {x : Int} (h : fr lo hi M M1) (h0 : lo ≤ a) (h1 : a < hi) : fr lo hi M (en_wI M1 a i x) := ⟨h.1, fun b hb => by
  show (if b = a then _ else _) = _
  rw [if_neg (by omega)]
  exact h.2 b hb⟩
theorem isE_o {lo hi : Nat} {M M' : Mm} {e : Nat} {E : Ev} (h : isE M e E) (hf : fr lo hi M M') (he : e + 16 ≤ lo ∨ hi ≤ e) : isE M' e E := isE_fr h (fun a h0 h1 => hf.2 a (by omega))
def s_cc (E : Ev) : Nat → Int × Int
  | 0 => (E.1 1 2, -1)
  | n + 1 => if rdy E n < (s_cc E n).1 ∨ (rdy E n = (s_cc E n).1 ∧ (s_cc E n).2 = -1) then (rdy E n, (n : Int)) else s_cc E n
def s_call (E : Ev) : Int := (s_cc E (E.1 0 2).toNat).1
def s_clr (E : Ev) : Int := (s_cc E (E.1 0 2).toNat).2
/-- of the words of a set, those that the vote lets be, of the first n: their bits and their columns' -/
def s_kw (E : Ev) (wr : Nat) : Nat → Nat × Nat
  | 0 => (0, 0)
  | n + 1 => if (wr.testBit n && s_vote E n) = true then ((s_kw E wr n).1 ||| 2 ^ n, (s_kw E wr n).2 ||| 2 ^ (E.1 4 n).toNat) else s_kw E wr n
def kpw (E : Ev) (p : Nat) : Nat := (s_kw E (wrt E p (s_call E)) (E.1 0 1).toNat).1
def kpc (E : Ev) (p : Nat) : Nat := (s_kw E (wrt E p (s_call E)) (E.1 0 1).toNat).2
theorem s_kw_lt {E : Ev} {wr : Nat} (hg : s_ok E) : ∀ n : Nat, (n : Int) ≤ E.1 0 1 → (s_kw E wr n).1 < 2 ^ 24 ∧ (s_kw E wr n).2 < 2 ^ 5
  | 0, _ => by simp [s_kw]
  | n + 1, h => by
    have ih := s_kw_lt (wr := wr) hg n (by omega)
    have hw := hg.2.1 n (by omega)
    have hn := hg.1
    have h24 : n < 24 := by have := hn.2.1; omega
    unfold s_kw
    split
    · exact ⟨nu_orlt ih.1 h24, nu_orlt ih.2 (by obtain ⟨-, -, h3, -⟩ := hw; have := hn.1; omega)⟩
    · exact ih
theorem kpw_lt {E : Ev} (hg : s_ok E) (p : Nat) : kpw E p < 2 ^ 24 := (s_kw_lt hg _ (by have := hg.1.2.1; omega)).1
theorem kpc_lt {E : Ev} (hg : s_ok E) (p : Nat) : kpc E p < 2 ^ 5 := (s_kw_lt hg _ (by have := hg.1.2.1; omega)).2
theorem rdy_b {E : Ev} (hg : s_ok E) {p : Nat} (hp : p < 4) : 0 ≤ rdy E p ∧ rdy E p ≤ 1000370 := by
  unfold rdy
  have hl : (s_shl E p).length ≤ 5 := by
    unfold s_shl
    rw [shl_len]
    have := (hg.2.2.1 p hp).1
    omega
  have key : ∀ (l : List Nat) (t n : Int), (∀ w ∈ l, (w : Int) < E.1 0 1) → 0 ≤ t → (0 ≤ s_rd (s_can E p) (s_cost E) (E.1 1 1) 1000000 l t n ∧ s_rd (s_can E p) (s_cost E) (E.1 1 1) 1000000 l t n ≤ 1000000 + t + 74 * (l.length : Int)) := by
    intro l
    induction l with
    | nil => intro t n _ ht; simp [s_rd]; omega
    | cons w r ih =>
      intro t n hw ht
      have hc := s_cost_b (hg.2.1 w (hw w (List.mem_cons_self ..)))
      have hr : ∀ x ∈ r, (x : Int) < E.1 0 1 := fun x hx => hw x (List.mem_cons_of_mem _ hx)
      unfold s_rd
      simp only [List.length_cons]
      split
      · split
        · omega
        · have := ih (t + s_cost E w) (n + 1) hr (by omega)
          omega
      · have := ih t n hr ht
        omega
  have hm : ∀ (f : Nat → Int) (n i : Nat), (∀ j : Nat, j < i + n → 0 ≤ f j ∧ f j < E.1 0 1) → ∀ w ∈ shl f i n, (w : Int) < E.1 0 1 := by
    intro f n
    induction n with
    | zero => intro i _ w hw; cases hw
    | succ n ih =>
      intro i hf w hw
      rcases List.mem_cons.mp hw with h | h
      · subst h
        have := hf i (by omega)
        omega
      · exact ih (i + 1) (fun j hj => hf j (by omega)) w h
  have := key (s_shl E p) 0 0 (hm _ _ _ (fun j hj => (hg.2.2.1 p hp).2 j (by have := (hg.2.2.1 p hp).1; omega))) (by omega)
  omega
theorem s_cc_b {E : Ev} (hg : s_ok E) : ∀ n, n ≤ 4 → (0 ≤ (s_cc E n).1 ∧ (s_cc E n).1 ≤ 600) ∧ (-1 ≤ (s_cc E n).2 ∧ (s_cc E n).2 < (n : Int))
  | 0, _ => by
    have := hg.1.2.2.2.2.2.1
    simp only [s_cc]
    omega
  | n + 1, h => by
    have ih := s_cc_b hg n (by omega)
    have hr := rdy_b hg (p := n) (by omega)
    unfold s_cc
    split
    · dsimp only
      omega
    · omega
def kpM (M : Mm) (p : Nat) (q : Nat × Nat) : Mm := en_wI (en_wI M 50 p ((q.1 : Nat) : Int)) 51 p ((q.2 : Nat) : Int)
theorem kpM_50 {M : Mm} {p : Nat} {q : Nat × Nat} : (kpM M p q).1 50 p = ((q.1 : Nat) : Int) := by simp [kpM, en_wI]
theorem kpM_51 {M : Mm} {p : Nat} {q : Nat × Nat} : (kpM M p q).1 51 p = ((q.2 : Nat) : Int) := by simp [kpM, en_wI]
theorem kpM_fr {M : Mm} {p : Nat} {q : Nat × Nat} : fr 49 52 M (kpM M p q) := fr_w (fr_w fr_rfl (by decide) (by decide)) (by decide) (by decide)
theorem wI_51 {M : Mm} {p i : Nat} {x : Int} : (en_wI M 50 p x).1 51 i = M.1 51 i := by simp [en_wI]
theorem wI_wI {M : Mm} {a b p : Nat} {x y x' y' : Int} (h : a ≠ b) : en_wI (en_wI (en_wI (en_wI M a p x) b p y) a p x') b p y' = en_wI (en_wI M a p x') b p y' := by
  unfold en_wI
  refine Prod.ext (funext fun c => funext fun i => ?_) rfl
  have h' := h.symm
  by_cases h1 : c = b
  · subst h1
    by_cases h3 : i = p <;> simp [h, h', h3]
  · by_cases h2 : c = a
    · subst h2
      by_cases h3 : i = p <;> simp [h1, h3]
    · simp [h1, h2]
theorem wI_ne {M : Mm} {a b p : Nat} {x : Int} (h : b ≠ a) : (en_wI M a p x).1 b = M.1 b := by simp [en_wI, h]
theorem kp_step {M : Mm} {p i : Nat} {q : Nat × Nat} {c : Int} (h1 : q.1 < 2 ^ 24) (h2 : q.2 < 2 ^ 5) (hi : i < 24) (hc : 0 ≤ c ∧ c < 5) : en_wI (en_wI (kpM M p q) 50 p (en_or ((kpM M p q).1 50 p) (en_shl 1 ((i : Nat) : Int)))) 51 p (en_or ((en_wI (kpM M p q) 50 p (en_or ((kpM M p q).1 50 p) (en_shl 1 ((i : Nat) : Int)))).1 51 p) (en_shl 1 c)) = kpM M p (q.1 ||| 2 ^ i, q.2 ||| 2 ^ c.toNat) := by
  rw [wI_51, kpM_50, kpM_51, nu_orset (by omega) (by omega) (by omega), nu_orset (by omega) (by omega) (by omega)]
  unfold kpM
  rw [wI_wI (by decide), Int.toNat_natCast]
theorem kw_t {E : Ev} {wr i : Nat} (h1 : en_and (en_shr ((wr : Nat) : Int) ((i : Nat) : Int)) 1 = 1) (h2 : s_vote E i = true) (hw : wr < 2 ^ 31) (hi : i < 31) : s_kw E wr (i + 1) = ((s_kw E wr i).1 ||| 2 ^ i, (s_kw E wr i).2 ||| 2 ^ (E.1 4 i).toNat) := by
  rw [nu_bit hw hi] at h1
  rw [s_kw]
  refine if_pos ?_
  rw [h2, Bool.and_true]
  by_cases h : wr.testBit i = true
  · exact h
  · rw [if_neg h] at h1; cases h1
theorem kw_f {E : Ev} {wr i : Nat} (h : ¬ (en_and (en_shr ((wr : Nat) : Int) ((i : Nat) : Int)) 1 = 1 ∧ s_vote E i = true)) (hw : wr < 2 ^ 31) (hi : i < 31) : s_kw E wr (i + 1) = s_kw E wr i := by
  rw [nu_bit hw hi] at h
  rw [s_kw]
  refine if_neg (fun z => h ?_)
  rw [Bool.and_eq_true] at z
  exact ⟨if_pos z.1, z.2⟩
def isO (M : Mm) (E : Ev) : Prop := M.1 49 0 = s_call E ∧ M.1 49 1 = s_clr E ∧ ∀ q : Nat, (q : Int) < E.1 0 2 → M.1 50 q = ((kpw E q : Nat) : Int) ∧ M.1 51 q = ((kpc E q : Nat) : Int)
theorem L_keep {post : Option AV → Mm → Prop} (e : Nat) (E : Ev) (M : Mm) (hI : isE M e E) (hg : s_ok E) (he : e + 16 ≤ 49) (p wr : Nat) (hp : p < 4) (hwr : wr < 2 ^ 31) (hq : post none (kpM M p (s_kw E wr (E.1 0 1).toNat))) : ∀ (n : Nat) (i : Nat), (((i : Nat) : Int) + ((n : Nat) : Int) = E.1 0 1) → en_AW 3 0 38 post 17 [some (.inr (.inr (1, 2, 49))), some (.inr (.inr (1, 1, e))), some (.inl ((p : Nat) : Int)), some (.inl ((wr : Nat) : Int)), some (.inl ((i : Nat) : Int))] [] (kpM M p (s_kw E wr i)) 0 := by
  intro n
  induction n with
  | zero =>
    intro i hi
    have hJ : isE (kpM M p (s_kw E wr i)) e E := isE_o hI kpM_fr (Or.inl he)
    obtain ⟨n0, n1, n2, a0, a1, a2, a3, a4, a5, a6, a7⟩ := nm_I hJ hg.1
    have r1 := r0_I hJ 1
    have r2 := r0_I hJ 2
    refine aw_38_17 ?_
    refine br_ge_y (a := ((i : Nat) : Int)) (b := (kpM M p (s_kw E wr i)).1 e 1) (by omega) (by omega) (by omega) ?_
    refine aw_38_82 ?_
    rw [show (E.1 0 1).toNat = i by omega] at hq
    exact hq
  | succ n ih =>
    intro i hi
    have hJ : isE (kpM M p (s_kw E wr i)) e E := isE_o hI kpM_fr (Or.inl he)
    obtain ⟨n0, n1, n2, a0, a1, a2, a3, a4, a5, a6, a7⟩ := nm_I hJ hg.1
    have r1 := r0_I hJ 1
    have r2 := r0_I hJ 2
    have hb := s_kw_lt (wr := wr) hg i (by omega)
    have hbt := nu_bit (a := wr) (w := i) hwr (by omega)
    have hb1 := nu_and1 (en_shr ((wr : Nat) : Int) ((i : Nat) : Int))
    obtain ⟨k1, k2, k3, k4, k5, k6, k7⟩ := hg.2.1 i (by omega)
    have hcol : ∀ x, (en_wI (kpM M p (s_kw E wr i)) 50 p x).1 (e + 4) i = E.1 4 i := fun x => by rw [wI_ne (by omega)]; exact congrFun (hJ.1 4 (by decide)) i
    have h00 := r0_I hJ 0
    refine aw_38_17 ?_
    refine br_ge_n (a := ((i : Nat) : Int)) (b := (kpM M p (s_kw E wr i)).1 e 1) (by omega) (by omega) (by omega) ?_
    refine br_ne (a := en_and (en_shr ((wr : Nat) : Int) ((i : Nat) : Int)) 1) (b := 1) (by omega) (by omega) (fun q2 => ?_) (fun q2 => ?_)
    · refine aw_38_76 ?_
      refine en_AW_M (show kpM M p (s_kw E wr i) = kpM M p (s_kw E wr (i + 1)) from congrArg (kpM M p) (kw_f (by rintro ⟨z1, z2⟩; first | contradiction | omega) hwr (by omega)).symm) ?_
      exact ih (i + 1) (by omega)
    · by_cases c3 : s_vote E i = true
      · refine ⟨2, 0, by first | decide | omega, by first | decide | omega, en_Ct_t (W_vote (e := e) (E := E) (M := (kpM M p (s_kw E wr i))) hJ hg (x := ((i : Nat) : Int)) (by omega) (by omega)) c3 ?_⟩
        refine br_eq_n (by decide) (by decide) (by decide) ?_
        refine ⟨p, rfl, (show p < 4 by omega), ?_⟩
        refine ⟨p, rfl, (show p < 4 by omega), ?_⟩
        refine ⟨p, rfl, (show p < 4 by omega), ?_⟩
        refine ⟨i, rfl, (show i < 24 by omega), ?_⟩
        refine ⟨p, rfl, (show p < 4 by omega), ?_⟩
        refine aw_38_76 ?_
        refine en_AW_M (show en_wI (en_wI (kpM M p (s_kw E wr i)) 50 p (en_or ((kpM M p (s_kw E wr i)).1 50 p) (en_shl 1 ((i : Nat) : Int)))) 51 p (en_or ((en_wI (kpM M p (s_kw E wr i)) 50 p (en_or ((kpM M p (s_kw E wr i)).1 50 p) (en_shl 1 ((i : Nat) : Int)))).1 51 p) (en_shl 1 ((en_wI (kpM M p (s_kw E wr i)) 50 p (en_or ((kpM M p (s_kw E wr i)).1 50 p) (en_shl 1 ((i : Nat) : Int)))).1 (e + 4) i))) = kpM M p (s_kw E wr (i + 1)) from (kp_step hb.1 hb.2 (by omega) (by rw [hcol]; omega)).trans (congrArg (kpM M p) (by rw [kw_t (by assumption) (by assumption) hwr (by omega), hcol]))) ?_
        exact ih (i + 1) (by omega)
      · refine ⟨2, 0, by first | decide | omega, by first | decide | omega, en_Ct_f (W_vote (e := e) (E := E) (M := (kpM M p (s_kw E wr i))) hJ hg (x := ((i : Nat) : Int)) (by omega) (by omega)) c3 ?_⟩
        refine br_eq_y (by decide) (by decide) (by decide) ?_
        refine aw_38_76 ?_
        refine en_AW_M (show kpM M p (s_kw E wr i) = kpM M p (s_kw E wr (i + 1)) from congrArg (kpM M p) (kw_f (by rintro ⟨z1, z2⟩; first | contradiction | omega) hwr (by omega)).symm) ?_
        exact ih (i + 1) (by omega)
theorem R_keep (e : Nat) (E : Ev) (M : Mm) (hI : isE M e E) (hg : s_ok E) (he : e + 16 ≤ 49) (p wr : Nat) (hp : p < 4) (hwr : wr < 2 ^ 31) : en_Ct 3 0 38 [.inr (.inr (1, 2, 49)), .inr (.inr (1, 1, e)), .inl ((p : Nat) : Int), .inl ((wr : Nat) : Int)] M (fun r M' => r = none ∧ M' = kpM M p (s_kw E wr (E.1 0 1).toNat)) := by
  obtain ⟨n0, n1, n2, a0, a1, a2, a3, a4, a5, a6, a7⟩ := nm_I hI hg.1
  have r1 := r0_I hI 1
  have r2 := r0_I hI 2
  refine ct_38 rfl ?_
  refine aw_38_0 ?_
  refine ⟨p, rfl, (show p < 4 by omega), ?_⟩
  refine ⟨p, rfl, (show p < 4 by omega), ?_⟩
  refine en_AW_M (show en_wI (en_wI M 50 p 0) 51 p 0 = kpM M p (s_kw E wr 0) from rfl) ?_
  exact L_keep e E M hI hg he p wr hp hwr ⟨rfl, rfl⟩ (E.1 0 1).toNat 0 (by omega)
theorem cc_t {E : Ev} {n : Nat} (h : rdy E n < (s_cc E n).1 ∨ (rdy E n = (s_cc E n).1 ∧ (s_cc E n).2 = -1)) : s_cc E (n + 1) = (rdy E n, (n : Int)) := by rw [s_cc]; exact if_pos h
theorem cc_f {E : Ev} {n : Nat} (h : ¬ (rdy E n < (s_cc E n).1 ∨ (rdy E n = (s_cc E n).1 ∧ (s_cc E n).2 = -1))) : s_cc E (n + 1) = s_cc E n := by rw [s_cc]; exact if_neg h
theorem L_reckon1 {post : Option AV → Mm → Prop} (e : Nat) (E : Ev) (M : Mm) (hI : isE M e E) (hg : s_ok E) (he : e + 16 ≤ 49) (hx : ∀ K : Mm, fr 49 52 M K → K.1 49 0 = s_call E → K.1 49 1 = s_clr E → en_AW 4 0 37 post 71 [some (.inr (.inr (1, 2, 49))), some (.inr (.inr (1, 1, e))), none, none] [] K 0) : ∀ (n : Nat) (i : Nat) (K : Mm), (((i : Nat) : Int) + ((n : Nat) : Int) = E.1 0 2) → (fr 49 52 M K) → (K.1 49 0 = (s_cc E i).1) → (K.1 49 1 = (s_cc E i).2) → en_AW 4 0 37 post 17 [some (.inr (.inr (1, 2, 49))), some (.inr (.inr (1, 1, e))), some (.inl ((i : Nat) : Int)), none] [] K 0 := by
  intro n
  induction n with
  | zero =>
    intro i K hi hf h0 h1
    have hJ : isE K e E := isE_o hI hf (Or.inl he)
    obtain ⟨n0, n1, n2, a0, a1, a2, a3, a4, a5, a6, a7⟩ := nm_I hJ hg.1
    have r1 := r0_I hJ 1
    have r2 := r0_I hJ 2
    refine aw_37_17 ?_
    refine br_ge_y (a := ((i : Nat) : Int)) (b := K.1 e 2) (by omega) (by omega) (by omega) ?_
    refine en_AW_drop [true, true, false, true] ?_
    exact hx K hf (by rw [h0, s_call, show (E.1 0 2).toNat = i by omega]) (by rw [h1, s_clr, show (E.1 0 2).toNat = i by omega])
  | succ n ih =>
    intro i K hi hf h0 h1
    have hJ : isE K e E := isE_o hI hf (Or.inl he)
    obtain ⟨n0, n1, n2, a0, a1, a2, a3, a4, a5, a6, a7⟩ := nm_I hJ hg.1
    have r1 := r0_I hJ 1
    have r2 := r0_I hJ 2
    have hb := s_cc_b hg i (by omega)
    have hr := rdy_b hg (p := i) (by omega)
    refine aw_37_17 ?_
    refine br_ge_n (a := ((i : Nat) : Int)) (b := K.1 e 2) (by omega) (by omega) (by omega) ?_
    refine ⟨3, 0, by first | decide | omega, by first | decide | omega, en_Ct_eq (W_rdy (e := e) (E := E) (M := K) hJ hg (p := i) (by omega)) ?_⟩
    refine br_lt (a := rdy E i) (b := K.1 49 0) (by omega) (by omega) (fun q2 => ?_) (fun q2 => ?_)
    · refine aw_37_55 ?_
      refine aw_37_65 ?_
      refine en_AW_drop [true, true, true, false] ?_
      exact ih (i + 1) _ (by omega) (fr_w (fr_w hf (by decide) (by decide)) (by decide) (by decide)) (by rw [cc_t (by omega)]; simp [en_wI]) (by rw [cc_t (by omega)]; simp [en_wI])
    · refine br_ne (a := rdy E i) (b := K.1 49 0) (by omega) (by omega) (fun q3 => ?_) (fun q3 => ?_)
      · refine aw_37_65 ?_
        refine en_AW_drop [true, true, true, false] ?_
        exact ih (i + 1) K (by omega) hf (by rw [cc_f (by omega)]; exact h0) (by rw [cc_f (by omega)]; exact h1)
      · refine br_ne (a := K.1 49 1) (b := (-1)) (by omega) (by omega) (fun q4 => ?_) (fun q4 => ?_)
        · refine aw_37_65 ?_
          refine en_AW_drop [true, true, true, false] ?_
          exact ih (i + 1) K (by omega) hf (by rw [cc_f (by omega)]; exact h0) (by rw [cc_f (by omega)]; exact h1)
        · refine aw_37_55 ?_
          refine aw_37_65 ?_
          refine en_AW_drop [true, true, true, false] ?_
          exact ih (i + 1) _ (by omega) (fr_w (fr_w hf (by decide) (by decide)) (by decide) (by decide)) (by rw [cc_t (by omega)]; simp [en_wI]) (by rw [cc_t (by omega)]; simp [en_wI])
theorem s_wr_lt {can : Nat → Bool} {cost : Nat → Int} {sec : Int} : ∀ (l : List Nat) (t : Int) (b : Nat), (∀ w ∈ l, w < 24) → b < 2 ^ 24 → s_wr can cost sec l t b < 2 ^ 24
  | [], _, _, _, hb => hb
  | w :: r, t, b, hw, hb => by
    have hr : ∀ x ∈ r, x < 24 := fun x hx => hw x (List.mem_cons_of_mem _ hx)
    unfold s_wr
    split
    · refine s_wr_lt r _ _ hr ?_
      split
      · exact nu_orlt hb (hw w (List.mem_cons_self ..))
      · exact hb
    · exact s_wr_lt r _ _ hr hb
theorem shl_mem {f : Nat → Int} {P : Nat → Prop} : ∀ (n i : Nat), (∀ j : Nat, i ≤ j → j < i + n → P (f j).toNat) → ∀ w ∈ shl f i n, P w
  | 0, _, _, w, hw => by cases hw
  | n + 1, i, hf, w, hw => by
    rcases List.mem_cons.mp hw with h | h
    · subst h
      exact hf i (by omega) (by omega)
    · exact shl_mem n (i + 1) (fun j h0 h1 => hf j (by omega) (by omega)) w h
theorem shl_w {E : Ev} (hg : s_ok E) {p : Nat} (hp : p < 4) : ∀ w ∈ s_shl E p, (w : Int) < E.1 0 1 := shl_mem _ _ (fun j h0 h1 => by
  have h := hg.2.2.1 p hp
  have := h.2 j (by omega)
  omega)
theorem wrt_lt24 {E : Ev} (hg : s_ok E) {p : Nat} (hp : p < 4) {sec : Int} : wrt E p sec < 2 ^ 24 := s_wr_lt _ _ _ (fun w hw => by have := shl_w hg hp w hw; have := hg.1.2.1; omega) (by decide)
theorem wrt_lt {E : Ev} (hg : s_ok E) {p : Nat} (hp : p < 4) {sec : Int} : wrt E p sec < 2 ^ 31 := Nat.lt_trans (wrt_lt24 hg hp) (by decide)
theorem kpM_ne {M : Mm} {p i : Nat} {q : Nat × Nat} (h : i ≠ p) : (kpM M p q).1 50 i = M.1 50 i ∧ (kpM M p q).1 51 i = M.1 51 i := by simp [kpM, en_wI, h]
theorem L_reckon2 {post : Option AV → Mm → Prop} (e : Nat) (E : Ev) (M : Mm) (hI : isE M e E) (hg : s_ok E) (he : e + 16 ≤ 49) (hx : ∀ K : Mm, fr 49 52 M K → isO K E → post none K) : ∀ (n : Nat) (i : Nat) (K : Mm), (((i : Nat) : Int) + ((n : Nat) : Int) = E.1 0 2) → (fr 49 52 M K) → (K.1 49 0 = s_call E) → (K.1 49 1 = s_clr E) → (∀ q : Nat, q < i → K.1 50 q = ((kpw E q : Nat) : Int) ∧ K.1 51 q = ((kpc E q : Nat) : Int)) → en_AW 4 0 37 post 73 [some (.inr (.inr (1, 2, 49))), some (.inr (.inr (1, 1, e))), some (.inl ((i : Nat) : Int)), none] [] K 0 := by
  intro n
  induction n with
  | zero =>
    intro i K hi hf h0 h1 h2
    have hJ : isE K e E := isE_o hI hf (Or.inl he)
    obtain ⟨n0, n1, n2, a0, a1, a2, a3, a4, a5, a6, a7⟩ := nm_I hJ hg.1
    have r1 := r0_I hJ 1
    have r2 := r0_I hJ 2
    refine aw_37_73 ?_
    refine br_ge_y (a := ((i : Nat) : Int)) (b := K.1 e 2) (by omega) (by omega) (by omega) ?_
    refine aw_37_102 ?_
    exact hx K hf ⟨h0, h1, fun q hq => h2 q (by omega)⟩
  | succ n ih =>
    intro i K hi hf h0 h1 h2
    have hJ : isE K e E := isE_o hI hf (Or.inl he)
    obtain ⟨n0, n1, n2, a0, a1, a2, a3, a4, a5, a6, a7⟩ := nm_I hJ hg.1
    have r1 := r0_I hJ 1
    have r2 := r0_I hJ 2
    have hb := s_cc_b hg (E.1 0 2).toNat (by omega)
    have hcb : 0 ≤ K.1 49 0 ∧ K.1 49 0 ≤ 600 := by rw [h0]; exact hb.1
    refine aw_37_73 ?_
    refine br_ge_n (a := ((i : Nat) : Int)) (b := K.1 e 2) (by omega) (by omega) (by omega) ?_
    refine ⟨3, 0, by first | decide | omega, by first | decide | omega, en_Ct_eq (W_wrt (e := e) (E := E) (M := K) hJ hg (p := i) (by omega) (sec := (K.1 49 0)) (by omega)) ?_⟩
    refine ⟨3, 0, by first | decide | omega, by first | decide | omega, en_Ct_eq (R_keep e E K hJ hg he i (wrt E i (K.1 49 0)) (by omega) (wrt_lt hg (by omega))) ?_⟩
    refine ih (i + 1) _ (by omega) (fr_tr hf kpM_fr) (by simpa [kpM, en_wI] using h0) (by simpa [kpM, en_wI] using h1) (fun q hq => ?_)
    by_cases hqi : q = i
    · subst hqi
      rw [kpM_50, kpM_51, h0]
      exact ⟨rfl, rfl⟩
    · rw [(kpM_ne hqi).1, (kpM_ne hqi).2]
      exact h2 q (by omega)
theorem R_reckon (e : Nat) (E : Ev) (M : Mm) (hI : isE M e E) (hg : s_ok E) (he : e + 16 ≤ 49) : en_Ct 4 0 37 [.inr (.inr (1, 2, 49)), .inr (.inr (1, 1, e))] M (fun r M' => r = none ∧ fr 49 52 M M' ∧ isO M' E) := by
  obtain ⟨n0, n1, n2, a0, a1, a2, a3, a4, a5, a6, a7⟩ := nm_I hI hg.1
  have r1 := r0_I hI 1
  have r2 := r0_I hI 2
  refine ct_37 rfl ?_
  refine aw_37_0 ?_
  refine ⟨2, rfl, (show 2 < 8 by omega), ?_⟩
  refine L_reckon1 e E M hI hg he (fun K hf h0 h1 => ?_) (E.1 0 2).toNat 0 _ (by omega) (fr_w (fr_w fr_rfl (by decide) (by decide)) (by decide) (by decide)) (by simp only [s_cc]; rw [← show M.1 (e + 1) = E.1 1 from hI.1 1 (by decide)]; simp [en_wI]) (by simp [s_cc, en_wI])
  refine aw_37_71 ?_
  exact L_reckon2 e E M hI hg he (fun K hf hO => ⟨rfl, hf, hO⟩) (E.1 0 2).toNat 0 K (by omega) hf h0 h1 (fun q hq => absurd hq (Nat.not_lt_zero q))
