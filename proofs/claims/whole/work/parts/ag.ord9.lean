theorem M_pnO {K : Mm} {Z : Ev} (h : evs (vM K 121) Z) (hg : s_ok Z) {p : Nat} (hp4 : p < 4) (hp : (p : Int) < Z.1 0 2) : en_Ct 6 0 203 [.inr (.inr (1, 6, 121)), .inl ((p : Nat) : Int)] K (fun r M' => r = some (.inl (pts Z p (-1))) ∧ fr 155 156 K M') := by
  have hgK : s_ok (vM K 121) := ev_ok (evs_symm h) hg
  refine en_Ct_mono (R_pointsNow 121 (vM K 121) K isM_self hgK p (by rw [h.1 2 (by decide)]; exact hp)) ?_
  rintro r M' ⟨h1, h2, -⟩
  rw [ev_pts h hgK hp4] at h1
  exact ⟨h1, h2⟩
theorem sk_fin {E : Ev} {p m : Nat} {pre : List Nat} {s T : Int × List Nat} {M K K2 : Mm} (hI : skI E p m pre s M) (hp4 : p < 4) (hl : pre.length = m) (hevK : evs (vM K 121) (shE E p pre)) (k1 : ∀ a, a ≠ 121 + 24 + 1 + 1 * p → K.1 a = M.1 a) (k2 : K.2 = M.2) (f1 : ∀ a, a ≠ 84 → a ≠ 120 → a ≠ 155 → K2.1 a = K.1 a) (f2 : ∀ i, i ≠ 40 → K2.1 84 i = K.1 84 i) (f3 : K2.2 = K.2) (hT : isSt K2 m T) : frU p M K2 ∧ skI E p m pre T K2 := by
  have hU : frU p M K2 := ⟨fun a z1 z2 z3 z4 z5 => by rw [f1 a z1 z3 z5, k1 a (by omega)], fun i hi => by rw [f2 i hi, k1 84 (by omega)], by rw [f3, k2]⟩
  refine ⟨hU, frU_J hp4 hU hI.1, ⟨lfn pre, ?_⟩, hT, fun j hj => by rw [f1 119 (by decide) (by decide) (by decide), k1 119 (by omega)]; exact hI.2.2.2 j hj⟩
  rw [← hl]
  exact vM_frS hevK (fun a z0 z1 => f1 a (by omega) (by omega) (by omega))
theorem lfn_app {pre : List Nat} {w j : Nat} (h : j < pre.length) : lfn (pre ++ [w]) j = lfn pre j := by
  unfold lfn
  rw [List.getD_eq_getElem?_getD, List.getD_eq_getElem?_getD, List.getElem?_append_left h]
theorem lfn_end {pre : List Nat} {w : Nat} : lfn (pre ++ [w]) pre.length = ((w : Nat) : Int) := by
  unfold lfn
  rw [List.getD_eq_getElem?_getD, List.getElem?_append_right (Nat.le_refl _), Nat.sub_self]
  rfl
theorem lfn_b {E : Ev} (hg : s_ok E) {p : Nat} (hp4 : p < 4) {pre : List Nat} (hin : ∀ w ∈ pre, w ∈ s_shl E p) {j : Nat} (hj : j < pre.length) : 0 ≤ lfn pre j ∧ lfn pre j < 24 := by
  have := shl_24 hg hp4 _ (hin _ (getD_mem hj))
  unfold lfn
  omega
theorem R_sk0 (E : Ev) (hg : s_ok E) (p : Nat) (hp : (p : Int) < E.1 0 2) (m : Nat) (hm : m = (E.1 14 p).toNat) (hm5 : m ≤ 5) (pre : List Nat) (mask : Nat) (hl : pre.length = m) (s : Int × List Nat) (M : Mm) (hI : skI E p m pre s M) (hnd : pre.Nodup) (hin : ∀ w ∈ pre, w ∈ s_shl E p) : en_Ct 7 0 220 [.inr (.inr (1, 6, 84)), .inr (.inr (1, 6, 121)), .inl ((p : Nat) : Int), .inl ((pre.length : Nat) : Int), .inl ((mask : Nat) : Int)] M (fun r M' => r = none ∧ frU p M M' ∧ skI E p m pre (stO E p s pre) M') := by
  have hp4 : p < 4 := by have := hg.1.2.2.1; omega
  have s1 := (hg.2.2.1 p hp4).1
  have r13 : M.1 113 p = E.1 14 p := congrFun hI.1.2.1.2.1 p
  refine ct_220 rfl ?_
  refine aw_220_0 ?_
  refine ⟨p, rfl, (show p < 4 by omega), ?_⟩
  refine br_ne_n (a := ((pre.length : Nat) : Int)) (b := M.1 113 p) (by omega) (by omega) (by omega) ?_
  refine L_sa E hg p hp m hm hm5 pre mask hl (fun j hj => lfn_b hg hp4 hin (by omega)) M (fun j hj => hI.2.2.2 j (by omega)) (fun K k1 k2 k3 => ?_) m 0 M (Nat.zero_add _) (fun a _ => rfl) rfl (fun j hj => absurd hj (Nat.not_lt_zero j))
  obtain ⟨F0, hF0⟩ := hI.2.1
  have hevK : evs (vM K 121) (shE E p pre) := cp_ev hp4 hF0 hl (fun a z0 z1 z2 => k1 a (by omega)) (fun j hj => by rw [← k3 j hj]; exact congrFun (congrArg K.1 (by omega)) j)
  have hgP := ok_pm hg hp4 (l := pre) ⟨by omega, hnd, hin⟩
  have pb := pts_b (E := shE E p pre) (p := p) (c := -1) hgP hp4
  refine aw_220_41 ?_
  refine ⟨6, 0, by first | decide | omega, by first | decide | omega, en_Ct_mono (M_pnO hevK hgP (p := p) hp4 hp) ?_⟩
  rintro _ K1 ⟨rfl, hf⟩
  have e40 : K1.1 84 40 = s.1 := by rw [hf.2 84 (by decide), k1 84 (by omega)]; exact hI.2.2.1.1
  have sb := hI.2.2.1.2.1
  refine br_eq (a := K1.1 84 40) (b := (-1)) (by omega) (by omega) (fun q1 => ?_) (fun q1 => ?_)
  · refine aw_220_65 ?_
    have e := stO_t (E := E) (p := p) (s := s) (l := pre) (by omega)
    rw [e]
    refine L_sb E hg p hp m hm hm5 pre mask hl (en_wI K1 84 40 (pts (shE E p pre) p (-1))) _ (fun j hj => by rw [wI_ne (by decide), hf.2 119 (by decide), k1 119 (by omega)]; exact hI.2.2.2 j (by omega)) (fun K2 g1 g2 g3 => ?_) m 0 _ (Nat.zero_add _) (fun a _ => rfl) rfl (fun j hj => absurd hj (Nat.not_lt_zero j))
    have h3 : isSt K2 m (pts (shE E p pre) p (-1), pre) := ⟨by rw [g1 84 (by decide)]; simp [en_wI], by dsimp only; omega, Or.inr g3⟩
    exact ⟨rfl, sk_fin hI hp4 hl hevK k1 k2 (fun a z1 z2 z3 => by rw [g1 a z2, wI_ne z1, hf.2 a (by omega)]) (fun i hi => by
      rw [g1 84 (by decide)]
      show (if 84 = 84 then (fun j => if j = 40 then _ else K1.1 84 j) else K1.1 84) i = _
      rw [if_pos rfl]
      show (if i = 40 then _ else K1.1 84 i) = _
      rw [if_neg hi, hf.2 84 (by decide)]) (by rw [g2]; exact hf.1) h3⟩
  · refine br_le (a := pts (shE E p pre) p (-1)) (b := K1.1 84 40) (by omega) (by omega) (fun q2 => ?_) (fun q2 => ?_)
    · refine aw_220_100 ?_
      have e := stO_f (E := E) (p := p) (s := s) (l := pre) (by omega)
      rw [e]
      have h3 : isSt K1 m s := ⟨e40, sb, Or.inr (fun j hj => by rw [hf.2 120 (by decide), k1 120 (by omega)]; exact (hI.2.2.1.2.2.resolve_left (by omega)) j hj)⟩
      exact ⟨rfl, sk_fin hI hp4 hl hevK k1 k2 (fun a z1 z2 z3 => hf.2 a (by omega)) (fun i _ => by rw [hf.2 84 (by decide)]) hf.1 h3⟩
    · refine aw_220_65 ?_
      have e := stO_t (E := E) (p := p) (s := s) (l := pre) (by omega)
      rw [e]
      refine L_sb E hg p hp m hm hm5 pre mask hl (en_wI K1 84 40 (pts (shE E p pre) p (-1))) _ (fun j hj => by rw [wI_ne (by decide), hf.2 119 (by decide), k1 119 (by omega)]; exact hI.2.2.2 j (by omega)) (fun K2 g1 g2 g3 => ?_) m 0 _ (Nat.zero_add _) (fun a _ => rfl) rfl (fun j hj => absurd hj (Nat.not_lt_zero j))
      have h3 : isSt K2 m (pts (shE E p pre) p (-1), pre) := ⟨by rw [g1 84 (by decide)]; simp [en_wI], by dsimp only; omega, Or.inr g3⟩
      exact ⟨rfl, sk_fin hI hp4 hl hevK k1 k2 (fun a z1 z2 z3 => by rw [g1 a z2, wI_ne z1, hf.2 a (by omega)]) (fun i hi => by
        rw [g1 84 (by decide)]
        show (if 84 = 84 then (fun j => if j = 40 then _ else K1.1 84 j) else K1.1 84) i = _
        rw [if_pos rfl]
        show (if i = 40 then _ else K1.1 84 i) = _
        rw [if_neg hi, hf.2 84 (by decide)]) (by rw [g2]; exact hf.1) h3⟩
theorem L_sk2 {post : Option AV → Mm → Prop} (E : Ev) (hg : s_ok E) (p : Nat) (hp : (p : Int) < E.1 0 2) (m : Nat) (hm : m = (E.1 14 p).toNat) (hm5 : m ≤ 5) (k : Nat) (hrec : seekC E p m k) (pre : List Nat) (mask : Nat) (hl : pre.length + (k + 1) = m) (hmask : mask < 32) (hbits : ∀ j, j < m → (mask.testBit j = true ↔ (E.2 p j).toNat ∈ pre)) (hnd : pre.Nodup) (hin : ∀ w ∈ pre, w ∈ s_shl E p) (M : Mm) (s : Int × List Nat) (w : Nat) (hw : (w : Int) < E.1 0 1) (hx : ∀ K : Mm, frU p M K → skI E p m pre (if decide (w ∈ s_shl E p ∧ w ∉ pre) = true then tk E p k (pre ++ [w]) s else s) K → en_AW (k + 8) 0 220 post 181 [some (.inr (.inr (1, 6, 84))), some (.inr (.inr (1, 6, 121))), some (.inl ((p : Nat) : Int)), some (.inl ((pre.length : Nat) : Int)), some (.inl ((mask : Nat) : Int)), some (.inl ((w : Nat) : Int)), none] [] K 0) : ∀ (n : Nat) (j : Nat) (K : Mm), (j + n = m) → (frU p M K) → (((∀ j', j' < j → ¬ ((E.2 p j').toNat = w ∧ (E.2 p j').toNat ∉ pre)) ∧ skI E p m pre s K) ∨ ((∃ j', j' < j ∧ ((E.2 p j').toNat = w ∧ (E.2 p j').toNat ∉ pre)) ∧ skI E p m pre (tk E p k (pre ++ [w]) s) K)) → en_AW (k + 8) 0 220 post 116 [some (.inr (.inr (1, 6, 84))), some (.inr (.inr (1, 6, 121))), some (.inl ((p : Nat) : Int)), some (.inl ((pre.length : Nat) : Int)), some (.inl ((mask : Nat) : Int)), some (.inl ((w : Nat) : Int)), some (.inl ((j : Nat) : Int))] [] K 0 := by
  intro n
  induction n with
  | zero =>
    intro j K hj hF hst
    have hp4 : p < 4 := by have := hg.1.2.2.1; omega
    have s1 := hg.2.2.1 p hp4
    have hJ : isM K 84 E := by
      rcases hst with ⟨-, z⟩ | ⟨-, z⟩
      · exact z.1
      · exact z.1
    have r13 : K.1 113 p = E.1 14 p := congrFun hJ.2.1.2.1 p
    refine aw_220_116 ?_
    refine ⟨p, rfl, (show p < 4 by omega), ?_⟩
    refine br_ge_y (a := ((j : Nat) : Int)) (b := K.1 113 p) (by omega) (by omega) (by omega) ?_
    refine en_AW_drop [true, true, true, true, true, true, false] ?_
    refine hx K hF ?_
    rcases hst with ⟨z1, z2⟩ | ⟨⟨j', z1, z2⟩, z3⟩
    · rw [if_neg (fun z => by
        obtain ⟨q1, q2⟩ := of_decide_eq_true z
        obtain ⟨j', -, h1, h2⟩ := shl_at _ _ q1
        exact z1 j' (by omega) ⟨h2, by rw [h2]; exact q2⟩)]
      exact z2
    · rw [if_pos (decide_eq_true ⟨by rw [← z2.1]; exact sh_in (by omega), by rw [← z2.1]; exact z2.2⟩)]
      exact z3
  | succ n ih =>
    intro j K hj hF hst
    have hp4 : p < 4 := by have := hg.1.2.2.1; omega
    have s1 := hg.2.2.1 p hp4
    have hJ : isM K 84 E := by
      rcases hst with ⟨-, z⟩ | ⟨-, z⟩
      · exact z.1
      · exact z.1
    have r13 : K.1 113 p = E.1 14 p := congrFun hJ.2.1.2.1 p
    have hsh : K.1 (109 + 1 * p) j = E.2 p j := congrFun (hJ.2.2 p hp4) j
    have n1 := hg.1.2.1
    have hb24 := s1.2 j (by omega)
    have hbb : ((E.2 p j).toNat ∈ pre ∧ en_and (en_shr ((mask : Nat) : Int) ((j : Nat) : Int)) 1 = 1) ∨ ((E.2 p j).toNat ∉ pre ∧ en_and (en_shr ((mask : Nat) : Int) ((j : Nat) : Int)) 1 = 0) := by
      rw [nu_bit (by omega) (by omega)]
      by_cases z : mask.testBit j = true
      · rw [if_pos z]; exact Or.inl ⟨(hbits j (by omega)).mp z, rfl⟩
      · rw [if_neg z]; exact Or.inr ⟨fun q => z ((hbits j (by omega)).mpr q), rfl⟩
    refine aw_220_116 ?_
    refine ⟨p, rfl, (show p < 4 by omega), ?_⟩
    refine br_ge_n (a := ((j : Nat) : Int)) (b := K.1 113 p) (by omega) (by omega) (by omega) ?_
    refine ⟨p, rfl, (show p < 4 by omega), ?_⟩
    refine ⟨j, rfl, (show j < 5 by omega), ?_⟩
    refine br_ne (a := K.1 (109 + 1 * p) j) (b := ((w : Nat) : Int)) (by omega) (by omega) (fun q2 => ?_) (fun q2 => ?_)
    · refine aw_220_175 ?_
      have hmt : ¬ ((E.2 p j).toNat = w ∧ (E.2 p j).toNat ∉ pre) := by
        rintro ⟨z3, z4⟩
        rcases hbb with ⟨z1, z2⟩ | ⟨z1, z2⟩
        · exact z4 z1
        · omega
      refine ih (j + 1) K (by omega) hF ?_
      rcases hst with ⟨z1, z2⟩ | ⟨⟨j', z1, z2⟩, z3⟩
      · exact Or.inl ⟨fun j' hj' => by
          by_cases e : j' = j
          · rw [e]; exact hmt
          · exact z1 j' (by omega), z2⟩
      · exact Or.inr ⟨⟨j', by omega, z2⟩, z3⟩
    · refine br_ne (a := en_and (en_shr ((mask : Nat) : Int) ((j : Nat) : Int)) 1) (b := 0) (by omega) (by omega) (fun q3 => ?_) (fun q3 => ?_)
      · refine aw_220_175 ?_
        have hmt : ¬ ((E.2 p j).toNat = w ∧ (E.2 p j).toNat ∉ pre) := by
          rintro ⟨z3, z4⟩
          rcases hbb with ⟨z1, z2⟩ | ⟨z1, z2⟩
          · exact z4 z1
          · omega
        refine ih (j + 1) K (by omega) hF ?_
        rcases hst with ⟨z1, z2⟩ | ⟨⟨j', z1, z2⟩, z3⟩
        · exact Or.inl ⟨fun j' hj' => by
            by_cases e : j' = j
            · rw [e]; exact hmt
            · exact z1 j' (by omega), z2⟩
        · exact Or.inr ⟨⟨j', by omega, z2⟩, z3⟩
      · refine ⟨pre.length, rfl, (show pre.length < 5 by omega), ?_⟩
        have hmt : ((E.2 p j).toNat = w ∧ (E.2 p j).toNat ∉ pre) := by
          rcases hbb with ⟨z1, z2⟩ | ⟨z1, z2⟩
          · omega
          · exact ⟨by omega, z1⟩
        have hwp : w ∉ pre := fun z => hmt.2 (by rw [hmt.1]; exact z)
        have hK0 : skI E p m pre s K := by
          rcases hst with ⟨-, z⟩ | ⟨⟨j', z1, z2⟩, -⟩
          · exact z
          · have := sh_at hg hp4 (j := j') (j' := j) (by omega) (by omega) (z2.1.trans hmt.1.symm)
            omega
        have hU1 : frU p K (en_wI K 119 pre.length ((w : Nat) : Int)) := ⟨fun a z1 z2 z3 z4 z5 => wI_ne z2, fun i _ => by rw [wI_ne (by decide)], rfl⟩
        have hI1 : skI E p m (pre ++ [w]) s (en_wI K 119 pre.length ((w : Nat) : Int)) := by
          obtain ⟨F0, hF0⟩ := hK0.2.1
          refine ⟨frU_J hp4 hU1 hK0.1, ⟨F0, vM_frS hF0 (fun a z0 z1 => wI_ne (by omega))⟩, ⟨by rw [wI_ne (by decide)]; exact hK0.2.2.1.1, hK0.2.2.1.2.1, by rw [wI_ne (by decide)]; exact hK0.2.2.1.2.2⟩, fun j' hj' => ?_⟩
          rw [List.length_append, List.length_singleton] at hj'
          show (if j' = pre.length then ((w : Nat) : Int) else K.1 119 j') = _
          by_cases z : j' = pre.length
          · rw [if_pos z, z, lfn_end]
          · rw [if_neg z, lfn_app (by omega)]
            exact hK0.2.2.2 j' (by omega)
        have hc2 : en_Ct (k + 7) 0 220 [.inr (.inr (1, 6, 84)), .inr (.inr (1, 6, 121)), .inl ((p : Nat) : Int), .inl (((pre.length : Nat) : Int) + 1), .inl (en_or ((mask : Nat) : Int) (en_shl 1 ((j : Nat) : Int)))] (en_wI K 119 pre.length ((w : Nat) : Int)) (fun r M' => r = none ∧ frU p (en_wI K 119 pre.length ((w : Nat) : Int)) M' ∧ skI E p m (pre ++ [w]) (tk E p k (pre ++ [w]) s) M') := by
          rw [nu_orset' (by omega) (by omega), show ((pre.length : Nat) : Int) + 1 = (((pre ++ [w]).length : Nat) : Int) by rw [List.length_append]; rfl]
          refine hrec _ (pre ++ [w]) (mask ||| 2 ^ j) s (by rw [List.length_append, List.length_singleton]; omega) hI1 (Nat.or_lt_two_pow (n := 5) hmask (Nat.pow_lt_pow_right (by decide) (by omega))) (fun j' hj' => ?_) (List.nodup_append.mpr ⟨hnd, List.pairwise_singleton _ _, fun a ha b hb e => by rw [List.mem_singleton] at hb; exact hwp (by rw [← hb, ← e]; exact ha)⟩) (fun v hv => ?_)
          · rw [Nat.testBit_or, Bool.or_eq_true, Nat.testBit_two_pow, decide_eq_true_eq, hbits j' hj', List.mem_append, List.mem_singleton]
            constructor
            · rintro (z | z)
              · exact Or.inl z
              · exact Or.inr (by rw [← z]; exact hmt.1)
            · rintro (z | z)
              · exact Or.inl z
              · exact Or.inr (sh_at hg hp4 (by omega) (by omega) (hmt.1.trans z.symm))
          · rcases List.mem_append.mp hv with z | z
            · exact hin v z
            · rw [List.mem_singleton] at z
              rw [z, ← hmt.1]
              exact sh_in (by omega)
        refine ⟨k + 7, 0, by first | decide | omega, by first | decide | omega, en_Ct_mono hc2 ?_⟩
        rintro _ K2 ⟨rfl, hU2, hI2⟩
        have hI3 : skI E p m pre (tk E p k (pre ++ [w]) s) K2 := ⟨hI2.1, hI2.2.1, hI2.2.2.1, fun j' hj' => by rw [← lfn_app (w := w) hj']; exact hI2.2.2.2 j' (by rw [List.length_append]; omega)⟩
        refine aw_220_175 ?_
        exact ih (j + 1) K2 (by omega) (frU_tr hF (frU_tr hU1 hU2)) (Or.inr ⟨⟨j, by omega, hmt⟩, hI3⟩)
