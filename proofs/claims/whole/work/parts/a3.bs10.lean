/-! the best sheet: the reference's search -/
def isT (K : Mm) (b : Nat) (s : Int × Nat × Int) : Prop := K.1 b 36 = s.1 ∧ (s.1 ≠ -1 → K.1 b 35 = ((s.2.1 : Nat) : Int) ∧ K.1 b 37 = s.2.2)
def sT (s : Int × Nat × Int) : Prop := (-1 ≤ s.1 ∧ s.1 ≤ 250) ∧ (s.1 ≠ -1 → s.2.1 < 2 ^ 24)
/-- what the search may change -/
def frT (b p : Nat) (M K : Mm) : Prop := (∀ a, a ≠ b → a ≠ b + 29 → a ≠ b + 24 + 1 + 1 * p → a ≠ b + 34 → K.1 a = M.1 a) ∧ (∀ i, i ≠ 35 → i ≠ 36 → i ≠ 37 → K.1 b i = M.1 b i) ∧ K.2 = M.2
theorem frT_rfl {b p : Nat} {M : Mm} : frT b p M M := ⟨fun _ _ _ _ _ => rfl, fun _ _ _ _ => rfl, rfl⟩
theorem frT_tr {b p : Nat} {M K K' : Mm} (h : frT b p M K) (h' : frT b p K K') : frT b p M K' := ⟨fun a h1 h2 h3 h4 => (h'.1 a h1 h2 h3 h4).trans (h.1 a h1 h2 h3 h4), fun i h1 h2 h3 => (h'.2.1 i h1 h2 h3).trans (h.2.1 i h1 h2 h3), h'.2.2.trans h.2.2⟩
theorem frT_c {b p i : Nat} {M K : Mm} {x : Int} (h : frT b p M K) (hi : i = 35 ∨ i = 36 ∨ i = 37) : frT b p M (en_wI K b i x) := ⟨fun a h1 h2 h3 h4 => by rw [wI_ne h1]; exact h.1 a h1 h2 h3 h4, fun j h1 h2 h3 => by
  have : j ≠ i := by omega
  simp only [en_wI, if_true, if_neg this]
  exact h.2.1 j h1 h2 h3, h.2.2⟩
theorem isQ_c {b p i : Nat} {K : Mm} {E : Ev} {x : Int} (h : isQ K b E p) (hp : p < 4) (hi : i = 35 ∨ i = 36 ∨ i = 37) : isQ (en_wI K b i x) b E p := isQ_fr h hp (fun j hj => by
  have : j ≠ i := by omega
  simp [en_wI, this]) (fun a h0 h1 h2 h3 => by rw [wI_ne (by omega)]) (fun q _ => by rw [wI_ne (by omega)])
theorem val_b {E : Ev} (hg : s_ok E) {p : Nat} {l : List Nat} (h : vld E p l) : 0 ≤ val E p l ∧ val E p l ≤ 250 := by
  unfold val
  exact smg_b hg (Nat.le_trans (pf_sub _ _).length_le (vld_len hg h))
theorem R_tries (b : Nat) (E : Ev) (hg : s_ok E) (p : Nat) (hpP : (p : Int) < E.1 0 2) (M : Mm) (hQ : isQ M b E p) (set : Nat) (hs24 : set < 2 ^ 24) (hsl : ∀ v, set.testBit v = true → v ∈ lin E p) (hv : vld E p (lf E p set)) (s : Int × Nat × Int) (hT : isT M b s) (hs : sT s) : en_Ct 7 0 214 [.inr (.inr (1, 6, b)), .inl ((p : Nat) : Int), .inl ((set : Nat) : Int)] M (fun r M' => r = none ∧ frT b p M M' ∧ isQ M' b E p ∧ isT M' b (stR E p s set) ∧ sT (stR E p s set)) := by
  obtain ⟨n0, n1, n2, a0, a1, a2, a3, a4, a5, a6, a7⟩ := hg.1
  have hp : p < 4 := by omega
  obtain ⟨t1, t2⟩ := id hT
  obtain ⟨y1, y2⟩ := id hs
  have u2 : s.1 ≠ -1 → M.1 b 35 = ((s.2.1 : Nat) : Int) := fun z => (t2 z).1
  have y3 : s.1 ≠ -1 → s.2.1 < 16777216 := y2
  refine ct_214 rfl ?_
  refine aw_214_0 ?_
  refine ⟨2, 0, by first | decide | omega, by first | decide | omega, en_Ct_mono (R_writes b E hg p hp M hQ set hs24 hsl hv) ?_⟩
  rintro _ K1 ⟨rfl, hQ1, hF1, hL1, hev, hgX⟩
  have e36 : K1.1 b = M.1 b := hF1 b (by omega) (by omega)
  have ePp : (mkX K1 b E).1 0 2 = E.1 0 2 := rfl
  refine ⟨6, 0, by first | decide | omega, by first | decide | omega, en_Ct_mono (R_pointsNow b (mkX K1 b E) K1 hQ1.1 hgX p hpP) ?_⟩
  rintro _ K2 ⟨rfl, hF2, hK2⟩
  have ev : pts (mkX K1 b E) p (-1) = val E p (lf E p set) := by rw [ev_pts hev hgX hp, pts_T hg hpP hv]
  have vb := val_b hg hv
  have e362 : K2.1 b = M.1 b := by rw [hF2.2 b (by omega)]; exact e36
  have z36 : K2.1 b 36 = s.1 := by rw [e362]; exact t1
  have z35 : s.1 ≠ -1 → K2.1 b 35 = ((s.2.1 : Nat) : Int) := by rw [e362]; exact u2
  have hQ2 : isQ K2 b E p := isQ_fr hQ1 hp (fun i _ => by rw [hF2.2 b (by omega)]) (fun a h0 h1 _ _ => hF2.2 a (by omega)) (fun q _ => by rw [hF2.2 _ (by omega)])
  have hFT2 : frT b p M K2 := ⟨fun a h1 h2 h3 h4 => by rw [hF2.2 a (by omega)]; exact hF1 a h2 h3, fun i _ _ _ => by rw [e362], by rw [hF2.1]; exact hL1⟩
  refine br_eq (a := K2.1 b 36) (b := (-1)) (by omega) (by omega) (fun q1 => ?_) (fun q1 => ?_)
  · refine aw_214_44 ?_
    have hJ3 : isM (en_wI (en_wI K2 b 36 (pts (mkX K1 b E) p (-1))) b 35 ((set : Nat) : Int)) b (mkX K1 b E) := isM_fr hQ1.1 (fun i hi => by
      have z35 : i ≠ 35 := by omega
      have z36 : i ≠ 36 := by omega
      have e : (en_wI (en_wI K2 b 36 (pts (mkX K1 b E) p (-1))) b 35 ((set : Nat) : Int)).1 b i = K2.1 b i := by simp [en_wI, z35, z36]
      rw [e, hF2.2 b (by omega)]) (fun a h0 h1 => by rw [wI_ne (by omega), wI_ne (by omega)]; exact hF2.2 a (by omega))
    refine ⟨3, 0, by first | decide | omega, by first | decide | omega, en_Ct_eq (R_callNow b (mkX K1 b E) (en_wI (en_wI K2 b 36 (pts (mkX K1 b E) p (-1))) b 35 ((set : Nat) : Int)) hJ3 hgX) ?_⟩
    refine aw_214_62 ?_
    have e : stR E p s set = (val E p (lf E p set), set, cl E p (lf E p set)) := if_pos (by rw [← ev]; omega)
    have ec : s_call (mkX K1 b E) = cl E p (lf E p set) := by rw [ev_call hev hgX, call_T hg hpP hv]
    rw [e]
    refine ⟨rfl, frT_c (frT_c (frT_c hFT2 (by decide)) (by decide)) (by decide), isQ_c (isQ_c (isQ_c hQ2 hp (by decide)) hp (by decide)) hp (by decide), ⟨?_, fun _ => ⟨?_, ?_⟩⟩, ⟨⟨by dsimp only; omega, by dsimp only; omega⟩, fun _ => hs24⟩⟩
    · simp [en_wI, ev]
    · simp [en_wI]
    · simp [en_wI, ec]
  · refine br_gt (a := pts (mkX K1 b E) p (-1)) (b := K2.1 b 36) (by omega) (by omega) (fun q2 => ?_) (fun q2 => ?_)
    · refine aw_214_44 ?_
      have hJ3 : isM (en_wI (en_wI K2 b 36 (pts (mkX K1 b E) p (-1))) b 35 ((set : Nat) : Int)) b (mkX K1 b E) := isM_fr hQ1.1 (fun i hi => by
        have z35 : i ≠ 35 := by omega
        have z36 : i ≠ 36 := by omega
        have e : (en_wI (en_wI K2 b 36 (pts (mkX K1 b E) p (-1))) b 35 ((set : Nat) : Int)).1 b i = K2.1 b i := by simp [en_wI, z35, z36]
        rw [e, hF2.2 b (by omega)]) (fun a h0 h1 => by rw [wI_ne (by omega), wI_ne (by omega)]; exact hF2.2 a (by omega))
      refine ⟨3, 0, by first | decide | omega, by first | decide | omega, en_Ct_eq (R_callNow b (mkX K1 b E) (en_wI (en_wI K2 b 36 (pts (mkX K1 b E) p (-1))) b 35 ((set : Nat) : Int)) hJ3 hgX) ?_⟩
      refine aw_214_62 ?_
      have e : stR E p s set = (val E p (lf E p set), set, cl E p (lf E p set)) := if_pos (by rw [← ev]; omega)
      have ec : s_call (mkX K1 b E) = cl E p (lf E p set) := by rw [ev_call hev hgX, call_T hg hpP hv]
      rw [e]
      refine ⟨rfl, frT_c (frT_c (frT_c hFT2 (by decide)) (by decide)) (by decide), isQ_c (isQ_c (isQ_c hQ2 hp (by decide)) hp (by decide)) hp (by decide), ⟨?_, fun _ => ⟨?_, ?_⟩⟩, ⟨⟨by dsimp only; omega, by dsimp only; omega⟩, fun _ => hs24⟩⟩
      · simp [en_wI, ev]
      · simp [en_wI]
      · simp [en_wI, ec]
    · refine br_ne (a := pts (mkX K1 b E) p (-1)) (b := K2.1 b 36) (by omega) (by omega) (fun q3 => ?_) (fun q3 => ?_)
      · refine aw_214_62 ?_
        have e : stR E p s set = s := if_neg (by rw [← ev]; omega)
        rw [e]
        exact ⟨rfl, hFT2, hQ2, ⟨by rw [e362]; exact hT.1, fun z => by rw [e362]; exact hT.2 z⟩, hs⟩
      · refine br_ge (a := ((set : Nat) : Int)) (b := K2.1 b 35) (by omega) (by omega) (fun q4 => ?_) (fun q4 => ?_)
        · refine aw_214_62 ?_
          have e : stR E p s set = s := if_neg (by rw [← ev]; omega)
          rw [e]
          exact ⟨rfl, hFT2, hQ2, ⟨by rw [e362]; exact hT.1, fun z => by rw [e362]; exact hT.2 z⟩, hs⟩
        · refine aw_214_44 ?_
          have hJ3 : isM (en_wI (en_wI K2 b 36 (pts (mkX K1 b E) p (-1))) b 35 ((set : Nat) : Int)) b (mkX K1 b E) := isM_fr hQ1.1 (fun i hi => by
            have z35 : i ≠ 35 := by omega
            have z36 : i ≠ 36 := by omega
            have e : (en_wI (en_wI K2 b 36 (pts (mkX K1 b E) p (-1))) b 35 ((set : Nat) : Int)).1 b i = K2.1 b i := by simp [en_wI, z35, z36]
            rw [e, hF2.2 b (by omega)]) (fun a h0 h1 => by rw [wI_ne (by omega), wI_ne (by omega)]; exact hF2.2 a (by omega))
          refine ⟨3, 0, by first | decide | omega, by first | decide | omega, en_Ct_eq (R_callNow b (mkX K1 b E) (en_wI (en_wI K2 b 36 (pts (mkX K1 b E) p (-1))) b 35 ((set : Nat) : Int)) hJ3 hgX) ?_⟩
          refine aw_214_62 ?_
          have e : stR E p s set = (val E p (lf E p set), set, cl E p (lf E p set)) := if_pos (by rw [← ev]; omega)
          have ec : s_call (mkX K1 b E) = cl E p (lf E p set) := by rw [ev_call hev hgX, call_T hg hpP hv]
          rw [e]
          refine ⟨rfl, frT_c (frT_c (frT_c hFT2 (by decide)) (by decide)) (by decide), isQ_c (isQ_c (isQ_c hQ2 hp (by decide)) hp (by decide)) hp (by decide), ⟨?_, fun _ => ⟨?_, ?_⟩⟩, ⟨⟨by dsimp only; omega, by dsimp only; omega⟩, fun _ => hs24⟩⟩
          · simp [en_wI, ev]
          · simp [en_wI]
          · simp [en_wI, ec]
theorem sk_sub {E : Ev} {p k c set : Nat} (h : ∀ S ∈ sk E p (k + 1) c set, S ∈ sk E p (E.1 0 0).toNat 0 0) : (∀ S ∈ sk E p k (c + 1) set, S ∈ sk E p (E.1 0 0).toNat 0 0) ∧ ∀ w, w < (E.1 0 1).toNat → skc E p c w = true → ∀ S ∈ sk E p k (c + 1) (set ||| 2 ^ w), S ∈ sk E p (E.1 0 0).toNat 0 0 := by
  refine ⟨fun S hS => h S ?_, fun w hw hc S hS => h S ?_⟩
  · rw [sk, skw_mem]; exact Or.inl hS
  · rw [sk, skw_mem]; exact Or.inr ⟨w, hw, hc, hS⟩
theorem sk_set {E : Ev} (hg : s_ok E) {p S : Nat} (h : S ∈ sk E p (E.1 0 0).toNat 0 0) : S < 2 ^ 24 ∧ (∀ v, S.testBit v = true → v ∈ lin E p) ∧ vld E p (lf E p S) := by
  obtain ⟨v1, v2, v3⟩ := sk_lf hg h
  have hm : ∀ v, S.testBit v = true → v ∈ lin E p := fun v hv => by
    have : v ∈ lf E p S := by
      have h2 := bts_bit (lf E p S) v
      rw [v2, hv] at h2
      exact of_decide_eq_true h2.symm
    exact v3.subset this
  refine ⟨?_, hm, v1⟩
  rw [← v2]
  refine bts_lt _ (fun w hw => ?_)
  have := (lin_mem.mp (v3.subset hw)).1
  have := hg.1.2.1
  omega
theorem L_seek {post : Option AV → Mm → Prop} (b : Nat) (E : Ev) (hg : s_ok E) (p : Nat) (hpP : (p : Int) < E.1 0 2) (k : Nat) (hR : ∀ (M : Mm) (c set : Nat) (s : Int × Nat × Int), (E.1 0 0).toNat = c + k → isQ M b E p → isT M b s → sT s → (∀ S ∈ sk E p k c set, S ∈ sk E p (E.1 0 0).toNat 0 0) → en_Ct (k + 8) 0 215 [.inr (.inr (1, 6, b)), .inl ((p : Nat) : Int), .inl ((c : Nat) : Int), .inl ((set : Nat) : Int)] M (fun r M' => r = none ∧ frT b p M M' ∧ isQ M' b E p ∧ isT M' b ((sk E p k c set).foldl (stR E p) s) ∧ sT ((sk E p k c set).foldl (stR E p) s))) (M : Mm) (c set : Nat) (s : Int × Nat × Int) (hck : (E.1 0 0).toNat = c + (k + 1)) (hsub : ∀ S ∈ sk E p (k + 1) c set, S ∈ sk E p (E.1 0 0).toNat 0 0) (hx : ∀ K : Mm, frT b p M K → isQ K b E p → isT K b ((sk E p (k + 1) c set).foldl (stR E p) s) → sT ((sk E p (k + 1) c set).foldl (stR E p) s) → post none K) : ∀ (n : Nat) (i : Nat) (K : Mm), (((i : Nat) : Int) + ((n : Nat) : Int) = E.1 0 1) → (frT b p M K) → (isQ K b E p) → (isT K b ((skw (fun w => sk E p k (c + 1) (set ||| 2 ^ w)) (skc E p c) (sk E p k (c + 1) set) i).foldl (stR E p) s)) → (sT ((skw (fun w => sk E p k (c + 1) (set ||| 2 ^ w)) (skc E p c) (sk E p k (c + 1) set) i).foldl (stR E p) s)) → en_AW (k + 9) 0 215 post 27 [some (.inr (.inr (1, 6, b))), some (.inl ((p : Nat) : Int)), some (.inl ((c : Nat) : Int)), some (.inl ((set : Nat) : Int)), some (.inl ((i : Nat) : Int))] [] K 0 := by
  intro n
  induction n with
  | zero =>
    intro i K hi hF hQ hT hs
    obtain ⟨n0, n1, n2, a0, a1, a2, a3, a4, a5, a6, a7⟩ := hg.1
    have k0 := hQ.1.1.1
    have k1 := hQ.1.1.2.1
    have k2 := hQ.1.1.2.2.1
    have e00 : (mkX K b E).1 0 0 = E.1 0 0 := rfl
    have e01 : (mkX K b E).1 0 1 = E.1 0 1 := rfl
    have e02 : (mkX K b E).1 0 2 = E.1 0 2 := rfl
    have hp : p < 4 := by omega
    refine aw_215_27 ?_
    refine br_ge_y (a := ((i : Nat) : Int)) (b := K.1 b 10) (by omega) (by omega) (by omega) ?_
    refine aw_215_77 ?_
    have e : sk E p (k + 1) c set = skw (fun w => sk E p k (c + 1) (set ||| 2 ^ w)) (skc E p c) (sk E p k (c + 1) set) i := by rw [sk, show (E.1 0 1).toNat = i by omega]
    exact hx K hF hQ (by rw [e]; exact hT) (by rw [e]; exact hs)
  | succ n ih =>
    intro i K hi hF hQ hT hs
    obtain ⟨n0, n1, n2, a0, a1, a2, a3, a4, a5, a6, a7⟩ := hg.1
    have k0 := hQ.1.1.1
    have k1 := hQ.1.1.2.1
    have k2 := hQ.1.1.2.2.1
    have e00 : (mkX K b E).1 0 0 = E.1 0 0 := rfl
    have e01 : (mkX K b E).1 0 1 = E.1 0 1 := rfl
    have e02 : (mkX K b E).1 0 2 = E.1 0 2 := rfl
    have hp : p < 4 := by omega
    have e4 : K.1 (b + 19) i = E.1 4 i := congrFun (hQ.1.2.1.2.2.2 4 (by decide) (by decide)) i
    have c4 := (hg.2.1 i (by omega)).2.2.1
    have hbase := sk_ne (E := E) (p := p) (k + 1) c set
    refine aw_215_27 ?_
    refine br_ge_n (a := ((i : Nat) : Int)) (b := K.1 b 10) (by omega) (by omega) (by omega) ?_
    refine ⟨i, rfl, (show i < 24 by omega), ?_⟩
    refine br_ne (a := K.1 (b + 19) i) (b := ((c : Nat) : Int)) (by omega) (by omega) (fun q2 => ?_) (fun q2 => ?_)
    · refine aw_215_71 ?_
      have hskc : ¬ skc E p c i = true := by
        unfold skc
        rw [Bool.and_eq_true, decide_eq_true_eq]
        rintro ⟨z1, z2⟩
        first | omega | contradiction
      have e : skw (fun w => sk E p k (c + 1) (set ||| 2 ^ w)) (skc E p c) (sk E p k (c + 1) set) (i + 1) = skw (fun w => sk E p k (c + 1) (set ||| 2 ^ w)) (skc E p c) (sk E p k (c + 1) set) i := by
        rw [skw, if_neg hskc, List.append_nil]
      exact ih (i + 1) K (by omega) hF hQ (by rw [e]; exact hT) (by rw [e]; exact hs)
    · by_cases c3 : s_can E p i = true
      · refine ⟨1, 0, by first | decide | omega, by first | decide | omega, en_Ct_t (Q_can (K := K) hQ hg (q := p) (x := ((i : Nat) : Int)) (by omega) (by omega) (by omega)) c3 ?_⟩
        refine br_eq_n (by decide) (by decide) (by decide) ?_
        have hskc : skc E p c i = true := by
          unfold skc
          rw [Bool.and_eq_true, decide_eq_true_eq]
          exact ⟨by omega, by assumption⟩
        have hset24 := (sk_set hg (hsub set hbase)).1
        have hc2 : en_Ct (k + 8) 0 215 [.inr (.inr (1, 6, b)), .inl ((p : Nat) : Int), .inl (((c : Nat) : Int) + 1), .inl (en_or ((set : Nat) : Int) (en_shl 1 ((i : Nat) : Int)))] K (fun r M' => r = none ∧ frT b p K M' ∧ isQ M' b E p ∧ isT M' b ((sk E p k (c + 1) (set ||| 2 ^ i)).foldl (stR E p) ((skw (fun w => sk E p k (c + 1) (set ||| 2 ^ w)) (skc E p c) (sk E p k (c + 1) set) i).foldl (stR E p) s)) ∧ sT ((sk E p k (c + 1) (set ||| 2 ^ i)).foldl (stR E p) ((skw (fun w => sk E p k (c + 1) (set ||| 2 ^ w)) (skc E p c) (sk E p k (c + 1) set) i).foldl (stR E p) s))) := by
          rw [nu_orset (by omega) (by omega) (by omega), Int.toNat_natCast, show ((c : Nat) : Int) + 1 = ((c + 1 : Nat) : Int) by rfl]
          exact hR K (c + 1) (set ||| 2 ^ i) _ (by omega) hQ hT hs ((sk_sub hsub).2 i (by omega) hskc)
        refine ⟨k + 8, 0, by first | decide | omega, by first | decide | omega, en_Ct_mono hc2 ?_⟩
        rintro _ K2 ⟨rfl, hF2, hQ2, hT2, hs2⟩
        refine aw_215_71 ?_
        have e : skw (fun w => sk E p k (c + 1) (set ||| 2 ^ w)) (skc E p c) (sk E p k (c + 1) set) (i + 1) = skw (fun w => sk E p k (c + 1) (set ||| 2 ^ w)) (skc E p c) (sk E p k (c + 1) set) i ++ sk E p k (c + 1) (set ||| 2 ^ i) := by
          rw [skw, if_pos hskc]
        exact ih (i + 1) K2 (by omega) (frT_tr hF hF2) hQ2 (by rw [e, List.foldl_append]; exact hT2) (by rw [e, List.foldl_append]; exact hs2)
      · refine ⟨1, 0, by first | decide | omega, by first | decide | omega, en_Ct_f (Q_can (K := K) hQ hg (q := p) (x := ((i : Nat) : Int)) (by omega) (by omega) (by omega)) c3 ?_⟩
        refine br_eq_y (by decide) (by decide) (by decide) ?_
        refine aw_215_71 ?_
        have hskc : ¬ skc E p c i = true := by
          unfold skc
          rw [Bool.and_eq_true, decide_eq_true_eq]
          rintro ⟨z1, z2⟩
          first | omega | contradiction
        have e : skw (fun w => sk E p k (c + 1) (set ||| 2 ^ w)) (skc E p c) (sk E p k (c + 1) set) (i + 1) = skw (fun w => sk E p k (c + 1) (set ||| 2 ^ w)) (skc E p c) (sk E p k (c + 1) set) i := by
          rw [skw, if_neg hskc, List.append_nil]
        exact ih (i + 1) K (by omega) hF hQ (by rw [e]; exact hT) (by rw [e]; exact hs)
theorem R_seek (b : Nat) (E : Ev) (hg : s_ok E) (p : Nat) (hpP : (p : Int) < E.1 0 2) : ∀ (k : Nat) (M : Mm) (c set : Nat) (s : Int × Nat × Int), (E.1 0 0).toNat = c + k → isQ M b E p → isT M b s → sT s → (∀ S ∈ sk E p k c set, S ∈ sk E p (E.1 0 0).toNat 0 0) → en_Ct (k + 8) 0 215 [.inr (.inr (1, 6, b)), .inl ((p : Nat) : Int), .inl ((c : Nat) : Int), .inl ((set : Nat) : Int)] M (fun r M' => r = none ∧ frT b p M M' ∧ isQ M' b E p ∧ isT M' b ((sk E p k c set).foldl (stR E p) s) ∧ sT ((sk E p k c set).foldl (stR E p) s)) := by
  intro k
  induction k with
  | zero =>
    intro M c set s hck hQ hT hs hsub
    obtain ⟨n0, n1, n2, -⟩ := hg.1
    have k0 : M.1 b 9 = E.1 0 0 := hQ.1.1.1
    obtain ⟨v1, v2, v3⟩ := sk_set hg (hsub set (sk_ne 0 c set))
    refine ct_215 rfl ?_
    refine aw_215_0 ?_
    refine br_ne_n (a := ((c : Nat) : Int)) (b := M.1 b 9) (by omega) (by omega) (by omega) ?_
    refine ⟨7, 0, by first | decide | omega, by first | decide | omega, en_Ct_mono (R_tries b E hg p hpP M hQ set v1 v2 v3 s hT hs) ?_⟩
    rintro _ K ⟨rfl, h1, h2, h3, h4⟩
    exact ⟨rfl, h1, h2, h3, h4⟩
  | succ k ih =>
    intro M c set s hck hQ hT hs hsub
    obtain ⟨n0, n1, n2, -⟩ := hg.1
    have k0 : M.1 b 9 = E.1 0 0 := hQ.1.1.1
    refine ct_215 rfl ?_
    refine aw_215_0 ?_
    refine br_ne_y (a := ((c : Nat) : Int)) (b := M.1 b 9) (by omega) (by omega) (by omega) ?_
    refine aw_215_15 ?_
    refine ⟨k + 8, 0, by omega, by omega, en_Ct_mono (ih M (c + 1) set s (by omega) hQ hT hs (sk_sub hsub).1) ?_⟩
    rintro _ K ⟨rfl, h1, h2, h3, h4⟩
    exact L_seek b E hg p hpP k ih M c set s hck hsub (fun K' a1 a2 a3 a4 => ⟨rfl, a1, a2, a3, a4⟩) (E.1 0 1).toNat 0 K (by omega) h1 h2 h3 h4
theorem R_findBest (b : Nat) (E : Ev) (hg : s_ok E) (p : Nat) (hpP : (p : Int) < E.1 0 2) (M : Mm) (hQ : isQ M b E p) : en_Ct 14 0 216 [.inr (.inr (1, 6, b)), .inl ((p : Nat) : Int)] M (fun r M' => r = none ∧ frT b p M M' ∧ isQ M' b E p ∧ M'.1 b 36 = (bst E p).1 ∧ M'.1 b 35 = (((bst E p).2.1 : Nat) : Int) ∧ M'.1 b 37 = (bst E p).2.2) := by
  obtain ⟨n0, n1, n2, a0, a1, a2, a3, a4, a5, a6, a7⟩ := hg.1
  refine ct_216 rfl ?_
  refine aw_216_0 ?_
  have hQ1 : isQ (en_wI M b 36 (-1)) b E p := isQ_c hQ (by omega) (by decide)
  refine ⟨(E.1 0 0).toNat + 8, 0, by first | decide | omega, by first | decide | omega, en_Ct_mono (show en_Ct ((E.1 0 0).toNat + 8) 0 215 [.inr (.inr (1, 6, b)), .inl ((p : Nat) : Int), .inl 0, .inl 0] (en_wI M b 36 (-1)) _ from R_seek b E hg p hpP (E.1 0 0).toNat (en_wI M b 36 (-1)) 0 0 (-1, 0, 0) (Nat.zero_add _).symm hQ1 ⟨by simp [en_wI], fun z => absurd rfl z⟩ ⟨⟨Int.le_refl _, (show (-1 : Int) ≤ 250 by decide)⟩, fun z => absurd rfl z⟩ (fun _ h => h)) ?_⟩
  rintro _ K ⟨rfl, h1, h2, h3, -⟩
  rw [ref_bst hg rfl] at h3
  have hne : (bst E p).1 ≠ -1 := by
    rw [(bst_lf hg).2.2.1]
    have := val_nn hg (p := p) (l := lf E p (bst E p).2.1)
    omega
  exact ⟨rfl, frT_tr (frT_c frT_rfl (by decide)) h1, h2, h3.1, (h3.2 hne).1, (h3.2 hne).2⟩
