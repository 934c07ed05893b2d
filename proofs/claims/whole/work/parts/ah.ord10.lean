theorem L_sk1 {post : Option AV → Mm → Prop} (E : Ev) (hg : s_ok E) (p : Nat) (hp : (p : Int) < E.1 0 2) (m : Nat) (hm : m = (E.1 14 p).toNat) (hm5 : m ≤ 5) (k : Nat) (hrec : seekC E p m k) (pre : List Nat) (mask : Nat) (hl : pre.length + (k + 1) = m) (hmask : mask < 32) (hbits : ∀ j, j < m → (mask.testBit j = true ↔ (E.2 p j).toNat ∈ pre)) (hnd : pre.Nodup) (hin : ∀ w ∈ pre, w ∈ s_shl E p) (M : Mm) (T : Int × List Nat) (hx : ∀ K : Mm, frU p M K → skI E p m pre T K → post none K) : ∀ (n : Nat) (i : Nat) (K : Mm) (s : Int × List Nat), (((i : Nat) : Int) + ((n : Nat) : Int) = E.1 0 1) → (frU p M K) → (skI E p m pre s K) → (T = ((List.range' i n).filter (fun w => decide (w ∈ s_shl E p ∧ w ∉ pre))).foldl (fun s w => tk E p k (pre ++ [w]) s) s) → en_AW (k + 8) 0 220 post 104 [some (.inr (.inr (1, 6, 84))), some (.inr (.inr (1, 6, 121))), some (.inl ((p : Nat) : Int)), some (.inl ((pre.length : Nat) : Int)), some (.inl ((mask : Nat) : Int)), some (.inl ((i : Nat) : Int)), none] [] K 0 := by
  intro n
  induction n with
  | zero =>
    intro i K s hi hF hI hT
    have k1 : K.1 84 10 = E.1 0 1 := hI.1.1.2.1
    have n1 := hg.1.2.1
    refine aw_220_104 ?_
    refine br_ge_y (a := ((i : Nat) : Int)) (b := K.1 84 10) (by omega) (by omega) (by omega) ?_
    refine aw_220_187 ?_
    exact hx K hF (by rw [show T = s from hT]; exact hI)
  | succ n ih =>
    intro i K s hi hF hI hT
    have k1 : K.1 84 10 = E.1 0 1 := hI.1.1.2.1
    have n1 := hg.1.2.1
    refine aw_220_104 ?_
    refine br_ge_n (a := ((i : Nat) : Int)) (b := K.1 84 10) (by omega) (by omega) (by omega) ?_
    refine L_sk2 E hg p hp m hm hm5 k hrec pre mask hl hmask hbits hnd hin M s i (by omega) (fun K2 hF2 hI2 => ?_) m 0 K (Nat.zero_add _) hF (Or.inl ⟨fun j' hj' => absurd hj' (Nat.not_lt_zero j'), hI⟩)
    refine aw_220_181 ?_
    refine ih (i + 1) K2 _ (by omega) hF2 hI2 ?_
    rw [hT]
    exact sk_rest (l := [])
theorem R_sk1 (E : Ev) (hg : s_ok E) (p : Nat) (hp : (p : Int) < E.1 0 2) (m : Nat) (hm : m = (E.1 14 p).toNat) (hm5 : m ≤ 5) (k : Nat) (hrec : seekC E p m k) (pre : List Nat) (mask : Nat) (hl : pre.length + (k + 1) = m) (hmask : mask < 32) (hbits : ∀ j, j < m → (mask.testBit j = true ↔ (E.2 p j).toNat ∈ pre)) (hnd : pre.Nodup) (hin : ∀ w ∈ pre, w ∈ s_shl E p) (M : Mm) (s : Int × List Nat) (hI : skI E p m pre s M) : en_Ct (k + 8) 0 220 [.inr (.inr (1, 6, 84)), .inr (.inr (1, 6, 121)), .inl ((p : Nat) : Int), .inl ((pre.length : Nat) : Int), .inl ((mask : Nat) : Int)] M (fun r M' => r = none ∧ frU p M M' ∧ skI E p m pre (tk E p (k + 1) pre s) M') := by
  have hp4 : p < 4 := by have := hg.1.2.2.1; omega
  have s1 := (hg.2.2.1 p hp4).1
  have r13 : M.1 113 p = E.1 14 p := congrFun hI.1.2.1.2.1 p
  refine ct_220 rfl ?_
  refine aw_220_0 ?_
  refine ⟨p, rfl, (show p < 4 by omega), ?_⟩
  refine br_ne_y (a := ((pre.length : Nat) : Int)) (b := M.1 113 p) (by omega) (by omega) (by omega) ?_
  refine aw_220_101 ?_
  exact L_sk1 E hg p hp m hm hm5 k hrec pre mask hl hmask hbits hnd hin M (tk E p (k + 1) pre s) (fun K h1 h2 => ⟨rfl, h1, h2⟩) (E.1 0 1).toNat 0 M s (by have := hg.1.2.1; omega) frU_rfl hI tk_s
theorem R_skA (E : Ev) (hg : s_ok E) (p : Nat) (hp : (p : Int) < E.1 0 2) (m : Nat) (hm : m = (E.1 14 p).toNat) (hm5 : m ≤ 5) : ∀ k, seekC E p m k
  | 0 => fun M pre mask s h1 h2 _ _ h5 h6 => by
    rw [tk_0]
    exact R_sk0 E hg p hp m hm hm5 pre mask h1 s M h2 h5 h6
  | k + 1 => fun M pre mask s h1 h2 h3 h4 h5 h6 => R_sk1 E hg p hp m hm hm5 k (R_skA E hg p hp m hm hm5 k) pre mask h1 h3 h4 h5 h6 M s h2
theorem tk_bo {E : Ev} {p : Nat} : tk E p (E.1 14 p).toNat [] (-1, []) = bo E p := by
  unfold tk bo
  rw [List.filter_eq_self.mpr (fun a _ => decide_eq_true List.not_mem_nil), show (fun t : List Nat => [] ++ t) = id from funext fun t => List.nil_append t, List.map_id]
theorem ush_self {E : Ev} (hg : s_ok E) {p m : Nat} (hp : p < 4) (hm : m = (E.1 14 p).toNat) : evs E (u_sh E (E.2 p) m p) := by
  have s1 := (hg.2.2.1 p hp).1
  refine ⟨fun _ _ => rfl, fun _ _ => rfl, fun r i z2 z8 _ => ?_, fun q hq => ⟨?_, rfl⟩, fun q i hq hi => ?_⟩
  · show _ = (if r = 14 then _ else E.1 r) i
    rw [if_neg (by omega)]
  · show _ = if q = p then ((m : Nat) : Int) else E.1 14 q
    by_cases z : q = p
    · rw [if_pos z, z]; omega
    · rw [if_neg z]
  · show _ = (if q = p then (fun i => if i < m then E.2 p i else E.2 p i) else E.2 q) i
    by_cases z : q = p
    · rw [if_pos z, z]
      show _ = if i < m then E.2 p i else E.2 p i
      split <;> rfl
    · rw [if_neg z]
theorem R_so {E : Ev} (hg : s_ok E) {p : Nat} (hp : (p : Int) < E.1 0 2) {m : Nat} (hm : m = (E.1 14 p).toNat) (hm5 : m ≤ 5) {N : Mm} (hJ : isM N 84 E) (hev : evs (vM N 121) E) (h40 : N.1 84 40 = -1) : en_Ct (m + 7) 0 220 [.inr (.inr (1, 6, 84)), .inr (.inr (1, 6, 121)), .inl ((p : Nat) : Int), .inl 0, .inl 0] N (fun r M' => r = none ∧ frU p N M' ∧ isSt M' m (bo E p) ∧ isM M' 84 E) := by
  have hp4 : p < 4 := by have := hg.1.2.2.1; omega
  have h := R_skA E hg p hp m hm hm5 m N [] 0 (-1, []) (Nat.zero_add _) ⟨hJ, ⟨E.2 p, evs_tr hev (ush_self hg hp4 hm)⟩, ⟨h40, by dsimp only; omega, Or.inl rfl⟩, fun j hj => absurd hj (Nat.not_lt_zero j)⟩ (by decide) (fun j hj => ⟨fun z => absurd z (by rw [Nat.zero_testBit]; decide), fun z => absurd z List.not_mem_nil⟩) List.Pairwise.nil (fun w hw => absurd hw List.not_mem_nil)
  rw [show tk E p m [] (-1, []) = bo E p by rw [hm]; exact tk_bo] at h
  refine en_Ct_mono h ?_
  rintro r M' ⟨h1, h2, h3⟩
  exact ⟨h1, h2, h3.2.2.1, h3.1⟩
theorem fr_w40 (hF : freshC) {M : Mm} {bm : Nat} (hbm : (if M.1 84 25 = 0 then 1 else 0) = bm) : en_Ct 8 bm 237 [.inr (.inr (1, 6, 84))] (en_wI M 84 40 (-1)) (fun r M' => r = some (.inr (.inr (1, 6, 121))) ∧ frP (en_wI M 84 40 (-1)) M') := by
  have h := hF (en_wI M 84 40 (-1))
  rw [show (en_wI M 84 40 (-1)).1 84 25 = M.1 84 25 by simp [en_wI], hbm] at h
  exact h
theorem w40 {M : Mm} {i : Nat} (h : i ≠ 40) : (en_wI M 84 40 (-1)).1 84 i = M.1 84 i := by simp [en_wI, h]
theorem ord_mF {M N K : Mm} {p : Nat} (hp : p < 4) (hN : frP (en_wI M 84 40 (-1)) N) (hU : frU p N K) : mF M K ∧ (if M.1 84 25 = 0 then 1 else 0) + bl K ≤ bl M := by
  refine ⟨⟨fun a ha => ?_, fun i hi => ?_, fun a ha => ?_⟩, ?_⟩
  · rw [hU.1 a (by omega) (by omega) (by omega) (by omega) (by omega), hN.2.2.1 a (by omega) (by omega), wI_ne (by omega)]
  · rw [hU.2.1 i (by omega), hN.2.1 i (by omega), w40 (by omega)]
  · rw [hU.2.2, hN.2.2.2.1 a (by omega)]
    rfl
  · unfold bl
    rw [hU.2.1 24 (by decide), hU.2.1 25 (by decide), hN.2.1 24 (by decide), if_neg hN.1, w40 (by decide)]
    omega
theorem bo_ne {E : Ev} (hg : s_ok E) {p : Nat} (hp : p < 4) : (bo E p).1 ≠ -1 := by
  have s1 := (hg.2.2.1 p hp).1
  obtain ⟨r, r1, -, -, r4⟩ := chk_i (m := (E.1 14 p).toNat) (by omega)
  have key : ∀ (X : List (List Nat)) (s : Int × List Nat), 0 ≤ s.1 → 0 ≤ (X.foldl (stO E p) s).1 := by
    intro X
    induction X with
    | nil => intro s h; rw [List.foldl_nil]; exact h
    | cons x r ih =>
      intro s h
      rw [List.foldl_cons]
      refine ih _ ?_
      unfold stO
      split
      · dsimp only; omega
      · exact h
  have h0 := prm_g hg hp (r4 (List.range (E.1 14 p).toNat) (by rw [r1]; exact List.mem_cons_self ..))
  have pb := pts_b (E := shE E p ((List.range (E.1 14 p).toNat).map (gw E p))) (p := p) (c := -1) (ok_pm hg hp h0) hp
  unfold bo
  rw [pm_map hg hp, r1, List.map_cons, List.foldl_cons, stO_t (by dsimp only; omega)]
  have := key (r.map (List.map (gw E p))) (pts (shE E p ((List.range (E.1 14 p).toNat).map (gw E p))) p (-1), (List.range (E.1 14 p).toNat).map (gw E p)) pb.1
  omega
theorem PM_order (hF : freshC) (E : Ev) (M : Mm) (hJ : isM M 84 E) (hg : s_ok E) (bm : Nat) (hbm : (if M.1 84 25 = 0 then 1 else 0) = bm) (x t : Int) (hx : -2147483648 ≤ x ∧ x < 2147483648) (ht : -2147483648 ≤ t ∧ t < 2147483648) (hacc : (0 ≤ x ∧ x < E.1 0 2) ∧ -1 ≤ t ∧ t < E.1 14 x.toNat) : en_Ct 20 bm 221 [.inr (.inr (1, 6, 84)), .inl x, .inl t] M (fun r M' => r = some (.inl (a_order E x t).2) ∧ bm + bl M' ≤ bl M ∧ mF M M' ∧ isM M' 84 E) := by
  obtain ⟨n0, n1, n2, a0, a1, a2, a3, a4, a5, a6, a7⟩ := hg.1
  have r0 : M.1 84 9 = E.1 0 0 := hJ.1.1
  have r1 : M.1 84 10 = E.1 0 1 := hJ.1.2.1
  have r2 : M.1 84 18 = E.1 0 2 := hJ.1.2.2.1
  have r14x : M.1 113 x.toNat = E.1 14 x.toNat := congrFun hJ.2.1.2.1 _
  have s14x : (0 ≤ x ∧ x < E.1 0 2) → 0 ≤ E.1 14 x.toNat ∧ E.1 14 x.toNat ≤ 5 := fun z => (hg.2.2.1 x.toNat (by omega)).1
  refine ct_221 rfl ?_
  refine aw_221_0 ?_
  by_cases c1 : 0 ≤ x ∧ x < E.1 0 2
  · refine ⟨2, 0, by first | decide | omega, by first | decide | omega, en_Ct_t (M_isPerson (M := M) (E := E) hJ hg (x := x) (by omega)) c1 ?_⟩
    refine br_eq_n (by decide) (by decide) (by decide) ?_
    refine br_ge (a := t) (b := (-1)) (by omega) (by omega) (fun q3 => ?_) (fun q3 => ?_)
    · refine aw_221_20 ?_
      have s14 := s14x (by omega)
      refine ⟨x.toNat, it_nn (x := x) (by omega), (show x.toNat < 4 by omega), ?_⟩
      refine br_lt (a := t) (b := M.1 113 x.toNat) (by omega) (by omega) (fun q4 => ?_) (fun q4 => ?_)
      · obtain ⟨p, rfl⟩ := Int.eq_ofNat_of_zero_le (show 0 ≤ x by omega)
        have s1 := (hg.2.2.1 p (by omega)).1
        rw [Int.toNat_natCast] at hacc
        have hbo := bo_ne hg (p := p) (by omega)
        refine aw_221_37 ?_
        have hJ0 : isM (en_wI M 84 40 (-1)) 84 E := isM_fr hJ (fun i hi => w40 (by omega)) (fun a h0 h1 => wI_ne (by omega))
        refine ⟨8, bm, by first | decide | omega, by first | decide | omega, en_Ct_mono (fr_w40 hF hbm) ?_⟩
        rintro _ N ⟨rfl, hN⟩
        obtain ⟨hJN, hev, hg3⟩ := fr_ev hJ0 hg hN
        have h40 : N.1 84 40 = -1 := by rw [hN.2.1 40 (by decide)]; simp [en_wI]
        refine ⟨(E.1 14 p).toNat + 7, 0, by first | decide | omega, by first | decide | omega, en_Ct_mono (R_so (m := (E.1 14 p).toNat) hg (p := p) (by omega) rfl (by omega) hJN hev h40) ?_⟩
        rintro _ K ⟨rfl, hU, hSt, hJK⟩
        refine br_ne (a := t) (b := (-1)) (by omega) (by omega) (fun q1 => ?_) (fun q1 => ?_)
        · refine aw_221_65 ?_
          refine ⟨t.toNat, it_nn (x := t) (by omega), (show t.toNat < 5 by omega), ?_⟩
          refine aw_221_71 ?_
          have ha : a_order E p t = (0, K.1 120 t.toNat) := by
            unfold a_order vo
            rw [if_pos (by omega), if_neg (by rw [Int.toNat_natCast]; omega), Int.toNat_natCast]
            refine congrArg (fun z : Int => ((0 : Nat), z)) ?_
            rw [if_neg (by omega)]
            exact (hSt.2.2.resolve_left hbo t.toNat (by omega)).symm
          rw [ha]
          obtain ⟨m1, m2⟩ := ord_mF (by omega) hN hU
          exact ⟨rfl, by rw [← hbm]; exact m2, m1, hJK⟩
        · refine aw_221_71 ?_
          have ha : a_order E p t = (0, K.1 84 40) := by
            unfold a_order vo
            rw [if_pos (by omega), if_neg (by rw [Int.toNat_natCast]; omega), Int.toNat_natCast]
            refine congrArg (fun z : Int => ((0 : Nat), z)) ?_
            rw [if_pos (by omega)]
            exact hSt.1.symm
          rw [ha]
          obtain ⟨m1, m2⟩ := ord_mF (by omega) hN hU
          exact ⟨rfl, by rw [← hbm]; exact m2, m1, hJK⟩
      · refine ⟨1, 0, by first | decide | omega, by first | decide | omega, en_Ct_eq (R_refM (-5) (by omega) M) ?_⟩
        exfalso
        omega
    · refine aw_221_13 ?_
      refine ⟨1, 0, by first | decide | omega, by first | decide | omega, en_Ct_eq (R_refM (-2) (by omega) M) ?_⟩
      exfalso
      omega
  · refine ⟨2, 0, by first | decide | omega, by first | decide | omega, en_Ct_f (M_isPerson (M := M) (E := E) hJ hg (x := x) (by omega)) c1 ?_⟩
    refine br_eq_y (by decide) (by decide) (by decide) ?_
    refine aw_221_13 ?_
    refine ⟨1, 0, by first | decide | omega, by first | decide | omega, en_Ct_eq (R_refM (-2) (by omega) M) ?_⟩
    exfalso
    omega
theorem PMr_order (E : Ev) (M : Mm) (hJ : isM M 84 E) (hg : s_ok E) (x t : Int) (hx : -2147483648 ≤ x ∧ x < 2147483648) (ht : -2147483648 ≤ t ∧ t < 2147483648) (hacc : ¬ ((0 ≤ x ∧ x < E.1 0 2) ∧ -1 ≤ t ∧ t < E.1 14 x.toNat)) : en_Ct 20 0 221 [.inr (.inr (1, 6, 84)), .inl x, .inl t] M (fun r M' => r = some (.inl (a_order E x t).2) ∧ sM (aM M (a_order E x t).1) M') := by
  obtain ⟨n0, n1, n2, a0, a1, a2, a3, a4, a5, a6, a7⟩ := hg.1
  have r0 : M.1 84 9 = E.1 0 0 := hJ.1.1
  have r1 : M.1 84 10 = E.1 0 1 := hJ.1.2.1
  have r2 : M.1 84 18 = E.1 0 2 := hJ.1.2.2.1
  have r14x : M.1 113 x.toNat = E.1 14 x.toNat := congrFun hJ.2.1.2.1 _
  have s14x : (0 ≤ x ∧ x < E.1 0 2) → 0 ≤ E.1 14 x.toNat ∧ E.1 14 x.toNat ≤ 5 := fun z => (hg.2.2.1 x.toNat (by omega)).1
  refine ct_221 rfl ?_
  refine aw_221_0 ?_
  by_cases c1 : 0 ≤ x ∧ x < E.1 0 2
  · refine ⟨2, 0, by first | decide | omega, by first | decide | omega, en_Ct_t (M_isPerson (M := M) (E := E) hJ hg (x := x) (by omega)) c1 ?_⟩
    refine br_eq_n (by decide) (by decide) (by decide) ?_
    refine br_ge (a := t) (b := (-1)) (by omega) (by omega) (fun q3 => ?_) (fun q3 => ?_)
    · refine aw_221_20 ?_
      have s14 := s14x (by omega)
      refine ⟨x.toNat, it_nn (x := x) (by omega), (show x.toNat < 4 by omega), ?_⟩
      refine br_lt (a := t) (b := M.1 113 x.toNat) (by omega) (by omega) (fun q4 => ?_) (fun q4 => ?_)
      · exfalso
        omega
      · refine ⟨1, 0, by first | decide | omega, by first | decide | omega, en_Ct_eq (R_refM (-5) (by omega) M) ?_⟩
        have ha : a_order E x t = (4, (-5)) := by
          unfold a_order
          repeat first | rw [if_pos (by omega)] | rw [if_neg (by omega)]
        rw [ha]
        exact ⟨rfl, sM_rfl⟩
    · refine aw_221_13 ?_
      refine ⟨1, 0, by first | decide | omega, by first | decide | omega, en_Ct_eq (R_refM (-2) (by omega) M) ?_⟩
      have ha : a_order E x t = (1, (-2)) := by
        unfold a_order
        repeat first | rw [if_pos (by omega)] | rw [if_neg (by omega)]
      rw [ha]
      exact ⟨rfl, sM_rfl⟩
  · refine ⟨2, 0, by first | decide | omega, by first | decide | omega, en_Ct_f (M_isPerson (M := M) (E := E) hJ hg (x := x) (by omega)) c1 ?_⟩
    refine br_eq_y (by decide) (by decide) (by decide) ?_
    refine aw_221_13 ?_
    refine ⟨1, 0, by first | decide | omega, by first | decide | omega, en_Ct_eq (R_refM (-2) (by omega) M) ?_⟩
    have ha : a_order E x t = (1, (-2)) := by
      unfold a_order
      repeat first | rw [if_pos (by omega)] | rw [if_neg (by omega)]
    rw [ha]
    exact ⟨rfl, sM_rfl⟩
theorem S_order (hF : freshC) {x t : Int} (hx : -2147483648 ≤ x ∧ x < 2147483648) (ht : -2147483648 ≤ t ∧ t < 2147483648) : sameC 94 221 [.inl x, .inl t] := same_fr (hx := 12) (hm := 20) (f := fun E => a_order E x t) (by decide) (by decide) (fun E M h1 h2 => PX_order E M h1 h2 x t hx ht) (fun E M bm h1 h2 h3 h4 => PM_order hF E M h1 h2 bm h3 x t hx ht (by
    have h4 : (a_order E x t).1 = 0 := h4
    unfold a_order at h4
    by_cases z : (0 ≤ x ∧ x < E.1 0 2) ∧ -1 ≤ t
    · rw [if_pos z] at h4
      by_cases z2 : E.1 14 x.toNat ≤ t
      · rw [if_pos z2] at h4; cases h4
      · exact ⟨z.1, z.2, by omega⟩
    · rw [if_neg z] at h4; cases h4)) (fun E M h1 h2 h3 => PMr_order E M h1 h2 x t hx ht (fun z => by
    have h3 : (a_order E x t).1 ≠ 0 := h3
    unfold a_order at h3
    rw [if_pos ⟨z.1, z.2.1⟩, if_neg (by omega)] at h3
    exact h3 rfl)) (fun E F h1 h2 => ea_order h1 h2) (fun E => by show (a_order E x t).1 ≤ 5; unfold a_order; (repeat' split) <;> exact Nat.le_of_ble_eq_true rfl)
