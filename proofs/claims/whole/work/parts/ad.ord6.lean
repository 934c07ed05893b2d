def foF (N K : Mm) : Prop := K.2 = N.2 ∧ ∀ a, a < 33 ∨ (52 ≤ a ∧ a ≠ 67) → K.1 a = N.1 a
theorem lfn_map {Q : List Nat} {g : Nat → Nat} {j : Nat} (h : j < Q.length) : lfn (Q.map g) j = ((g (lfn Q j).toNat : Nat) : Int) := by
  unfold lfn
  rw [List.getD_eq_getElem?_getD, List.getD_eq_getElem?_getD, List.getElem?_map, List.getElem?_eq_getElem h]
  rfl
theorem row_ev {K : Mm} {Z : Ev} (h : evs (vE K 33) Z) {p : Nat} (hp : p < 4) {F : Nat → Int} {l : List Nat} (hl : Z.1 14 p = l.length) (hF : ∀ j, j < l.length → F j = lfn l j) : evs (vE (rowM K (33 + 9 + 1 + 1 * p) F) 33) (shE Z p l) := by
  refine ⟨fun i hi => ?_, fun i hi => ?_, fun r i h2 h8 hi => ?_, fun q hq => ⟨?_, ?_⟩, fun q i hq hi => ?_⟩
  · show (rowM K (33 + 9 + 1 + 1 * p) F).1 (33 + 0) i = Z.1 0 i
    rw [rowM_n (by omega)]; exact h.1 i hi
  · show (rowM K (33 + 9 + 1 + 1 * p) F).1 (33 + 1) i = Z.1 1 i
    rw [rowM_n (by omega)]; exact h.2.1 i hi
  · show (rowM K (33 + 9 + 1 + 1 * p) F).1 (33 + r) i = (if r = 14 then _ else Z.1 r) i
    rw [rowM_n (by omega), if_neg (by omega)]; exact h.2.2.1 r i h2 h8 hi
  · show (rowM K (33 + 9 + 1 + 1 * p) F).1 (33 + 14) q = if q = p then (l.length : Int) else Z.1 14 q
    rw [rowM_n (by omega)]
    have := (h.2.2.2.1 q hq).1
    by_cases z : q = p
    · rw [if_pos z, ← hl, ← z]; exact this
    · rw [if_neg z]; exact this
  · show (rowM K (33 + 9 + 1 + 1 * p) F).1 (33 + 15) q = Z.1 15 q
    rw [rowM_n (by omega)]; exact (h.2.2.2.1 q hq).2
  · show (rowM K (33 + 9 + 1 + 1 * p) F).1 (33 + 9 + 1 + 1 * q) i = (if q = p then (fun i => if i < l.length then ((l.getD i 0 : Nat) : Int) else Z.2 p i) else Z.2 q) i
    have hi2 : (rowM K (33 + 9 + 1 + 1 * p) F).1 (33 + 14) q > i := hi
    rw [rowM_n (by omega)] at hi2
    have hi3 : (vE K 33).1 14 q > i := hi2
    have e := (h.2.2.2.1 q hq).1
    by_cases z : q = p
    · subst z
      rw [rowM_s, if_pos rfl]
      show F i = if i < l.length then ((l.getD i 0 : Nat) : Int) else Z.2 q i
      rw [if_pos (by omega)]
      exact hF i (by omega)
    · rw [rowM_n (by omega), if_neg z]
      exact h.2.2.2.2 q i hq hi3
theorem X_pitO {K : Mm} {Z : Ev} (h : evs (vE K 33) Z) (hg : s_ok Z) {p : Nat} (hp4 : p < 4) (hp : (p : Int) < Z.1 0 2) : en_Ct 5 0 132 [.inr (.inr (1, 5, 0)), .inl ((p : Nat) : Int)] K (fun r M' => r = some (.inl (pts Z p (-1))) ∧ fr 49 52 K M') := by
  have hgK : s_ok (vE K 33) := ev_ok (evs_symm h) hg
  refine en_Ct_mono (X_pitN (E := vE K 33) isE_self hgK (p := p) (by rw [h.1 2 (by decide)]; exact hp)) ?_
  rintro r M' ⟨h1, h2, -⟩
  rw [ev_pts h hgK hp4] at h1
  exact ⟨h1, h2⟩
theorem R_stepN {A m : Nat} (hm : m ≤ 5) {M : Mm} (hr : rng24 (M.1 A) m) (hk : s_k (M.1 A) (m - 1) = none) : en_Ct 2 0 136 [.inr (.inr (2, 5, A)), .inl ((m : Nat) : Int)] M (fun r M' => r = some (.inl 0) ∧ M' = M) := by
  refine en_Ct_mono (R_step A m hm M hr) ?_
  rintro r M' (⟨-, h1, h2⟩ | ⟨k, h1, -, -⟩)
  · exact ⟨h1, h2⟩
  · rw [hk] at h1; cases h1
theorem R_stepS {A m k : Nat} (hm : m ≤ 5) {M : Mm} (hr : rng24 (M.1 A) m) (hk : s_k (M.1 A) (m - 1) = some k) : en_Ct 2 0 136 [.inr (.inr (2, 5, A)), .inl ((m : Nat) : Int)] M (fun r M' => r = some (.inl 1) ∧ M' = rowM M A (stF (M.1 A) k m)) := by
  refine en_Ct_mono (R_step A m hm M hr) ?_
  rintro r M' (⟨h1, -, -⟩ | ⟨k', h1, h2, h3⟩)
  · rw [hk] at h1; cases h1
  · rw [hk] at h1
    injection h1 with h1
    subst h1
    exact ⟨h2, h3⟩
theorem R_sortZ {A m : Nat} {z : Int} (hz : z = ((m : Nat) : Int)) (hm : m ≤ 5) {M : Mm} (hr : rng24 (M.1 A) m) (hi : inj (M.1 A) m) : en_Ct 2 0 135 [.inr (.inr (2, 5, A)), .inl z] M (fun r M' => r = none ∧ ∃ f, M' = rowM M A f ∧ srt f m ∧ sset f (M.1 A) m) := by
  subst hz
  exact R_sort A m hm M hr hi
theorem cI_67 {M : Mm} {A m j : Nat} (h : j < m) : (en_cI M A 67 0 0 m).1 67 j = M.1 A j := by
  show (if 67 = 67 then va_cpy (M.1 A) (M.1 67) 0 0 m else M.1 67) j = _
  rw [if_pos rfl]
  unfold va_cpy
  rw [if_pos (by omega), Nat.zero_add, Nat.sub_zero]
theorem cI_n {M : Mm} {A m a : Nat} (h : a ≠ 67) : (en_cI M A 67 0 0 m).1 a = M.1 a := by
  show (if a = 67 then _ else M.1 a) = _
  rw [if_neg h]
theorem gw_24 {E : Ev} (hg : s_ok E) {p : Nat} (hp : p < 4) {i : Nat} (hi : i < (E.1 14 p).toNat) : gw E p i < 24 := shl_24 hg hp _ ((wl_mem hg hp).mp (getD_mem (by rw [wl_len hg hp]; exact hi)))
theorem rl_rng {E : Ev} (hg : s_ok E) {p : Nat} (hp : p < 4) {F f : Nat → Int} {m : Nat} (hm : m = (E.1 14 p).toNat) (h : rl (gw E p) m F f) : rng24 F m := fun i hi => by
  obtain ⟨h1, h2, h3⟩ := h i hi
  have := gw_24 hg hp (i := (f i).toNat) (by omega)
  omega
theorem stO_t {E : Ev} {p : Nat} {s : Int × List Nat} {l : List Nat} (h : s.1 < pts (shE E p l) p (-1)) : stO E p s l = (pts (shE E p l) p (-1), l) := if_pos h
theorem stO_f {E : Ev} {p : Nat} {s : Int × List Nat} {l : List Nat} (h : ¬ s.1 < pts (shE E p l) p (-1)) : stO E p s l = s := if_neg h
theorem fo_fr {N K K1 : Mm} (h : foF N K) (hf : fr 49 52 K K1) : foF N K1 := ⟨by rw [hf.1]; exact h.1, fun a ha => by rw [hf.2 a (by omega)]; exact h.2 a ha⟩
theorem fo_cI {N K : Mm} {A m : Nat} (h : foF N K) : foF N (en_cI K A 67 0 0 m) := ⟨h.1, fun a ha => by rw [cI_n (by omega)]; exact h.2 a ha⟩
theorem fo_row {N K : Mm} {p : Nat} (hp : p < 4) {F : Nat → Int} (h : foF N K) : foF N (rowM K (33 + 9 + 1 + 1 * p) F) := ⟨h.1, fun a ha => by rw [rowM_n (by omega)]; exact h.2 a ha⟩
theorem L_fo {post : Option AV → Mm → Prop} (E : Ev) (N0 : Mm) (hg : s_ok E) (p : Nat) (hp : (p : Int) < E.1 0 2) (m : Nat) (hm : m = (E.1 14 p).toNat) (hm5 : m ≤ 5) (T : Int × List Nat) (hq : ∀ K : Mm, foF N0 K → (∀ j, j < m → K.1 67 j = lfn T.2 j) → post (some (.inl T.1)) K) : ∀ (n : Nat) (Q : List Nat) (rest : List (List Nat)) (s : Int × List Nat) (i : Nat) (K : Mm), (rest.length = n) → (i + n < 120) → (chn m Q rest = true) → (Q.length = m ∧ (∀ x ∈ Q, x < m) ∧ Q.Nodup) → (∀ L ∈ rest, L.length = m ∧ (∀ x ∈ L, x < m) ∧ L.Nodup) → (T = (rest.map (List.map (gw E p))).foldl (stO E p) (stO E p s (Q.map (gw E p)))) → (-1 ≤ s.1 ∧ s.1 ≤ 250) → (s.1 = -1 ∨ ∀ j, j < m → K.1 67 j = lfn s.2 j) → (rl (gw E p) m (K.1 (33 + 9 + 1 + 1 * p)) (lfn Q)) → (evs (vE K 33) (shE E p (Q.map (gw E p)))) → (foF N0 K) → en_AW 6 0 134 post 42 [some (.inr (.inr (1, 5, 0))), some (.inl ((p : Nat) : Int)), some (.inr (.inr (2, 5, 33 + 9 + 1 + 1 * p))), some (.inl ((m : Nat) : Int)), some (.inl s.1), some (.inl ((i : Nat) : Int)), none] [] K 0 := by
  intro n
  induction n with
  | zero =>
    intro Q rest s i K hn hi hc hQ hR hT hs h67 hrl hev hF
    have hp4 : p < 4 := by have := hg.1.2.2.1; omega
    have gl := gw_lt hg hp4
    rw [← hm] at gl
    have hprm := prm_g hg hp4 (L := Q) (by rw [← hm]; exact hQ)
    have hgQ := ok_pm hg hp4 hprm
    have pb := pts_b (E := shE E p (Q.map (gw E p))) (p := p) (c := -1) hgQ hp4
    obtain rfl : rest = [] := List.eq_nil_of_length_eq_zero hn
    rw [List.map_nil, List.foldl_nil] at hT
    refine aw_134_42 ?_
    refine br_ge_n (a := ((i : Nat) : Int)) (b := 120) (by omega) (by omega) (by omega) ?_
    refine ⟨5, 0, by first | decide | omega, by first | decide | omega, en_Ct_mono (X_pitO hev hgQ (p := p) hp4 hp) ?_⟩
    rintro _ K1 ⟨rfl, hf⟩
    have hA1 : K1.1 (33 + 9 + 1 + 1 * p) = K.1 (33 + 9 + 1 + 1 * p) := hf.2 _ (by omega)
    have hF1 : foF N0 K1 := fo_fr hF hf
    have h671 : K1.1 67 = K.1 67 := hf.2 67 (by decide)
    refine br_le (a := pts (shE E p (Q.map (gw E p))) p (-1)) (b := s.1) (by omega) (by omega) (fun q2 => ?_) (fun q2 => ?_)
    · refine aw_134_78 ?_
      have hA2 : (K1).1 (33 + 9 + 1 + 1 * p) = K.1 (33 + 9 + 1 + 1 * p) := hA1
      have hr2 : rng24 ((K1).1 (33 + 9 + 1 + 1 * p)) m := by rw [hA2]; exact rl_rng hg hp4 hm hrl
      have hk2 : s_k ((K1).1 (33 + 9 + 1 + 1 * p)) (m - 1) = none := by rw [hA2]; exact nx_none gl hrl (chn_n hc)
      refine ⟨2, 0, by first | decide | omega, by first | decide | omega, en_Ct_eq (R_stepN hm5 hr2 hk2) ?_⟩
      refine br_ne_n (by decide) (by decide) (by decide) ?_
      refine aw_134_95 ?_
      have e := stO_f (E := E) (p := p) (s := s) (l := (Q.map (gw E p))) (by omega)
      have h67b : ∀ j, j < m → (K1).1 67 j = lfn (stO E p s (Q.map (gw E p))).2 j := fun j hj => by
        rw [e]
        rw [h671]
        exact (h67.resolve_left (by omega)) j hj
      have hF2 : foF N0 (K1) := hF1
      have hq2 := hq _ hF2 (by rw [hT]; exact h67b)
      rw [hT, e] at hq2
      exact hq2
    · refine ⟨m, 0, 0, rfl, rfl, rfl, (show 0 + m ≤ 5 by omega), (show 0 + m ≤ 5 by omega), ?_⟩
      refine aw_134_78 ?_
      have hA2 : (en_cI K1 (33 + 9 + 1 + 1 * p) 67 0 0 m).1 (33 + 9 + 1 + 1 * p) = K.1 (33 + 9 + 1 + 1 * p) := (cI_n (by omega)).trans hA1
      have hr2 : rng24 ((en_cI K1 (33 + 9 + 1 + 1 * p) 67 0 0 m).1 (33 + 9 + 1 + 1 * p)) m := by rw [hA2]; exact rl_rng hg hp4 hm hrl
      have hk2 : s_k ((en_cI K1 (33 + 9 + 1 + 1 * p) 67 0 0 m).1 (33 + 9 + 1 + 1 * p)) (m - 1) = none := by rw [hA2]; exact nx_none gl hrl (chn_n hc)
      refine ⟨2, 0, by first | decide | omega, by first | decide | omega, en_Ct_eq (R_stepN hm5 hr2 hk2) ?_⟩
      refine br_ne_n (by decide) (by decide) (by decide) ?_
      refine aw_134_95 ?_
      have e := stO_t (E := E) (p := p) (s := s) (l := (Q.map (gw E p))) (by omega)
      have h67b : ∀ j, j < m → (en_cI K1 (33 + 9 + 1 + 1 * p) 67 0 0 m).1 67 j = lfn (stO E p s (Q.map (gw E p))).2 j := fun j hj => by
        rw [e]
        refine (cI_67 hj).trans ?_
        rw [hA1, (hrl j hj).2.2]
        exact (lfn_map (by rw [hQ.1]; exact hj)).symm
      have hF2 : foF N0 (en_cI K1 (33 + 9 + 1 + 1 * p) 67 0 0 m) := fo_cI hF1
      have hq2 := hq _ hF2 (by rw [hT]; exact h67b)
      rw [hT, e] at hq2
      exact hq2
  | succ n ih =>
    intro Q rest s i K hn hi hc hQ hR hT hs h67 hrl hev hF
    have hp4 : p < 4 := by have := hg.1.2.2.1; omega
    have gl := gw_lt hg hp4
    rw [← hm] at gl
    have hprm := prm_g hg hp4 (L := Q) (by rw [← hm]; exact hQ)
    have hgQ := ok_pm hg hp4 hprm
    have pb := pts_b (E := shE E p (Q.map (gw E p))) (p := p) (c := -1) hgQ hp4
    obtain ⟨Q2, r2, rfl⟩ : ∃ a b, rest = a :: b := by
      cases rest with
      | nil => cases hn
      | cons a b => exact ⟨a, b, rfl⟩
    rw [List.length_cons] at hn
    obtain ⟨hnx, hc2⟩ := chn_c hc
    obtain ⟨k, hk, hrl2⟩ := nx_some gl hrl hnx
    refine aw_134_42 ?_
    refine br_ge_n (a := ((i : Nat) : Int)) (b := 120) (by omega) (by omega) (by omega) ?_
    refine ⟨5, 0, by first | decide | omega, by first | decide | omega, en_Ct_mono (X_pitO hev hgQ (p := p) hp4 hp) ?_⟩
    rintro _ K1 ⟨rfl, hf⟩
    have hA1 : K1.1 (33 + 9 + 1 + 1 * p) = K.1 (33 + 9 + 1 + 1 * p) := hf.2 _ (by omega)
    have hF1 : foF N0 K1 := fo_fr hF hf
    have h671 : K1.1 67 = K.1 67 := hf.2 67 (by decide)
    refine br_le (a := pts (shE E p (Q.map (gw E p))) p (-1)) (b := s.1) (by omega) (by omega) (fun q2 => ?_) (fun q2 => ?_)
    · refine aw_134_78 ?_
      have hA2 : (K1).1 (33 + 9 + 1 + 1 * p) = K.1 (33 + 9 + 1 + 1 * p) := hA1
      have hr2 : rng24 ((K1).1 (33 + 9 + 1 + 1 * p)) m := by rw [hA2]; exact rl_rng hg hp4 hm hrl
      have hk2 : s_k ((K1).1 (33 + 9 + 1 + 1 * p)) (m - 1) = some k := by rw [hA2]; exact hk
      refine ⟨2, 0, by first | decide | omega, by first | decide | omega, en_Ct_eq (R_stepS hm5 hr2 hk2) ?_⟩
      refine br_ne_y (by decide) (by decide) (by decide) ?_
      refine aw_134_89 ?_
      have e := stO_f (E := E) (p := p) (s := s) (l := (Q.map (gw E p))) (by omega)
      have h67b : ∀ j, j < m → (K1).1 67 j = lfn (stO E p s (Q.map (gw E p))).2 j := fun j hj => by
        rw [e]
        rw [h671]
        exact (h67.resolve_left (by omega)) j hj
      have hF2 : foF N0 (K1) := hF1
      refine en_AW_drop [true, true, true, true, true, true, false] ?_
      refine en_AW_ls (congrArg (fun z_ : Int => ([some (.inr (.inr (1, 5, 0))), some (.inl ((p : Nat) : Int)), some (.inr (.inr (2, 5, 33 + 9 + 1 + 1 * p))), some (.inl ((m : Nat) : Int)), some (.inl z_), some (.inl (((i : Nat) : Int) + 1)), none] : AL)) (show s.1 = (stO E p s (Q.map (gw E p))).1 from by rw [e])) ?_
      have hevB : evs (vE (K1) 33) (shE E p (Q.map (gw E p))) := evs_tr (vE_fr (fun a h0 h1 => hf.2 a (by omega))) hev
      have hQ2 := hR Q2 (List.mem_cons_self ..)
      have hrl3 : rl (gw E p) m (stF ((K1).1 (33 + 9 + 1 + 1 * p)) k m) (lfn Q2) := by rw [hA2]; exact hrl2
      have hev2 : evs (vE (rowM (K1) (33 + 9 + 1 + 1 * p) (stF ((K1).1 (33 + 9 + 1 + 1 * p)) k m)) 33) (shE E p (Q2.map (gw E p))) := by
        have z := row_ev hevB hp4 (F := stF ((K1).1 (33 + 9 + 1 + 1 * p)) k m) (l := Q2.map (gw E p)) (by show (if p = p then ((((Q.map (gw E p))).length : Nat) : Int) else _) = _; rw [if_pos rfl, List.length_map, List.length_map, hQ.1, hQ2.1]) (fun j hj => by
          rw [List.length_map] at hj
          rw [lfn_map hj]
          exact (hrl3 j (by omega)).2.2)
        rw [sh_sh (by rw [List.length_map, List.length_map, hQ.1, hQ2.1])] at z
        exact z
      exact ih Q2 r2 (stO E p s (Q.map (gw E p))) (i + 1) _ (by omega) (by omega) hc2 hQ2 (fun L hL => hR L (List.mem_cons_of_mem _ hL)) (by rw [hT, List.map_cons, List.foldl_cons]) (by rw [e]; first | omega | (dsimp only; omega)) (Or.inr (fun j hj => by rw [rowM_n (by omega)]; exact h67b j hj)) (by rw [rowM_s]; exact hrl3) hev2 (fo_row hp4 hF2)
    · refine ⟨m, 0, 0, rfl, rfl, rfl, (show 0 + m ≤ 5 by omega), (show 0 + m ≤ 5 by omega), ?_⟩
      refine aw_134_78 ?_
      have hA2 : (en_cI K1 (33 + 9 + 1 + 1 * p) 67 0 0 m).1 (33 + 9 + 1 + 1 * p) = K.1 (33 + 9 + 1 + 1 * p) := (cI_n (by omega)).trans hA1
      have hr2 : rng24 ((en_cI K1 (33 + 9 + 1 + 1 * p) 67 0 0 m).1 (33 + 9 + 1 + 1 * p)) m := by rw [hA2]; exact rl_rng hg hp4 hm hrl
      have hk2 : s_k ((en_cI K1 (33 + 9 + 1 + 1 * p) 67 0 0 m).1 (33 + 9 + 1 + 1 * p)) (m - 1) = some k := by rw [hA2]; exact hk
      refine ⟨2, 0, by first | decide | omega, by first | decide | omega, en_Ct_eq (R_stepS hm5 hr2 hk2) ?_⟩
      refine br_ne_y (by decide) (by decide) (by decide) ?_
      refine aw_134_89 ?_
      have e := stO_t (E := E) (p := p) (s := s) (l := (Q.map (gw E p))) (by omega)
      have h67b : ∀ j, j < m → (en_cI K1 (33 + 9 + 1 + 1 * p) 67 0 0 m).1 67 j = lfn (stO E p s (Q.map (gw E p))).2 j := fun j hj => by
        rw [e]
        refine (cI_67 hj).trans ?_
        rw [hA1, (hrl j hj).2.2]
        exact (lfn_map (by rw [hQ.1]; exact hj)).symm
      have hF2 : foF N0 (en_cI K1 (33 + 9 + 1 + 1 * p) 67 0 0 m) := fo_cI hF1
      refine en_AW_drop [true, true, true, true, true, true, false] ?_
      refine en_AW_ls (congrArg (fun z_ : Int => ([some (.inr (.inr (1, 5, 0))), some (.inl ((p : Nat) : Int)), some (.inr (.inr (2, 5, 33 + 9 + 1 + 1 * p))), some (.inl ((m : Nat) : Int)), some (.inl z_), some (.inl (((i : Nat) : Int) + 1)), none] : AL)) (show pts (shE E p (Q.map (gw E p))) p (-1) = (stO E p s (Q.map (gw E p))).1 from by rw [e])) ?_
      have hevB : evs (vE (en_cI K1 (33 + 9 + 1 + 1 * p) 67 0 0 m) 33) (shE E p (Q.map (gw E p))) := evs_tr (vE_fr (fun a h0 h1 => by rw [cI_n (by omega), hf.2 a (by omega)])) hev
      have hQ2 := hR Q2 (List.mem_cons_self ..)
      have hrl3 : rl (gw E p) m (stF ((en_cI K1 (33 + 9 + 1 + 1 * p) 67 0 0 m).1 (33 + 9 + 1 + 1 * p)) k m) (lfn Q2) := by rw [hA2]; exact hrl2
      have hev2 : evs (vE (rowM (en_cI K1 (33 + 9 + 1 + 1 * p) 67 0 0 m) (33 + 9 + 1 + 1 * p) (stF ((en_cI K1 (33 + 9 + 1 + 1 * p) 67 0 0 m).1 (33 + 9 + 1 + 1 * p)) k m)) 33) (shE E p (Q2.map (gw E p))) := by
        have z := row_ev hevB hp4 (F := stF ((en_cI K1 (33 + 9 + 1 + 1 * p) 67 0 0 m).1 (33 + 9 + 1 + 1 * p)) k m) (l := Q2.map (gw E p)) (by show (if p = p then ((((Q.map (gw E p))).length : Nat) : Int) else _) = _; rw [if_pos rfl, List.length_map, List.length_map, hQ.1, hQ2.1]) (fun j hj => by
          rw [List.length_map] at hj
          rw [lfn_map hj]
          exact (hrl3 j (by omega)).2.2)
        rw [sh_sh (by rw [List.length_map, List.length_map, hQ.1, hQ2.1])] at z
        exact z
      exact ih Q2 r2 (stO E p s (Q.map (gw E p))) (i + 1) _ (by omega) (by omega) hc2 hQ2 (fun L hL => hR L (List.mem_cons_of_mem _ hL)) (by rw [hT, List.map_cons, List.foldl_cons]) (by rw [e]; first | omega | (dsimp only; omega)) (Or.inr (fun j hj => by rw [rowM_n (by omega)]; exact h67b j hj)) (by rw [rowM_s]; exact hrl3) hev2 (fo_row hp4 hF2)
theorem R_fo (E : Ev) (M : Mm) (hI : isE M 1 E) (hg : s_ok E) (p : Nat) (hp : (p : Int) < E.1 0 2) : en_Ct 6 0 134 [.inr (.inr (1, 5, 0)), .inl ((p : Nat) : Int)] M (fun r M' => r = some (.inl (bo E p).1) ∧ sX M M' ∧ ∀ j, j < (E.1 14 p).toNat → M'.1 67 j = lfn (bo E p).2 j) := by
  obtain ⟨n0, n1, n2, a0, a1, a2, a3, a4, a5, a6, a7⟩ := hg.1
  have r0 : M.1 1 0 = E.1 0 0 := r0_I hI 0
  have r1 : M.1 1 1 = E.1 0 1 := r0_I hI 1
  have r2 : M.1 1 2 = E.1 0 2 := r0_I hI 2
  refine ct_134 rfl ?_
  refine aw_134_0 ?_
  refine ⟨1, 0, by first | decide | omega, by first | decide | omega, en_Ct_mono (R_be_33_1 M (fun i hi => by rw [show M.1 9 = E.1 8 from hI.1 8 (by decide)]; exact hg.2.2.2.2 i hi)) ?_⟩
  rintro _ N ⟨rfl, hN⟩
  obtain ⟨hev, hg3, hIN⟩ := th_ev hI hg hN
  refine ⟨p, rfl, (show p < 4 by omega), ?_⟩
  refine ⟨p, rfl, (show p < 4 by omega), ?_⟩
  obtain ⟨m, hm⟩ : ∃ m, m = (E.1 14 p).toNat := ⟨_, rfl⟩
  have s1 := hg.2.2.1 p (by omega)
  have hm5 : m ≤ 5 := by have := s1.1; omega
  have e14 : N.1 (33 + 14) p = E.1 14 p := (hev.2.2.2.1 p (by omega)).1
  have hz : N.1 (33 + 14) p = ((m : Nat) : Int) := by have := s1.1; omega
  have hrow : ∀ j, j < m → N.1 (33 + 9 + 1 + 1 * p) j = E.2 p j := fun j hj => hev.2.2.2.2 p j (by omega) (by show (j : Int) < N.1 (33 + 14) p; omega)
  have hrN : rng24 (N.1 (33 + 9 + 1 + 1 * p)) m := fun j hj => by
    rw [hrow j hj]
    have := s1.2 j (by omega)
    omega
  have hiN : inj (N.1 (33 + 9 + 1 + 1 * p)) m := fun a b hab hb e => by
    rw [hrow a (by omega), hrow b hb] at e
    exact hg.2.2.2.1 p (by omega) a b hab (by omega) (by rw [e])
  refine ⟨2, 0, by first | decide | omega, by first | decide | omega, en_Ct_mono (R_sortZ (A := (33 + 9 + 1 + 1 * p)) (m := m) (z := N.1 47 p) hz hm5 hrN hiN) ?_⟩
  rintro _ _ ⟨rfl, f, rfl, hsrt, hset⟩
  refine en_AW_ls (congrArg (fun z_ : Int => ([some (.inr (.inr (1, 5, 0))), some (.inl ((p : Nat) : Int)), some (.inr (.inr (2, 5, 43 + 1 * p))), some (.inl z_), some (.inl (-1)), some (.inl 0), none] : AL)) (show N.1 47 p = ((m : Nat) : Int) from hz)) ?_
  have hp4 : p < 4 := by omega
  have hset2 : sset f (E.2 p) m := fun v => (hset v).trans ⟨fun ⟨i, hi, e⟩ => ⟨i, hi, by rw [← hrow i hi]; exact e⟩, fun ⟨i, hi, e⟩ => ⟨i, hi, by rw [hrow i hi]; exact e⟩⟩
  have hgw := srt_wl hg hp4 (f := f) (by rw [← hm]; exact hsrt) (by rw [← hm]; exact hset2)
  rw [← hm] at hgw
  obtain ⟨rs, r1, r2, r3, r4⟩ := chk_i hm5
  have hlr : ∀ j, j < m → lfn (List.range m) j = ((j : Nat) : Int) := fun j hj => by
    unfold lfn
    rw [List.getD_eq_getElem?_getD, List.getElem?_range hj]
    rfl
  have hrl : rl (gw E p) m f (lfn (List.range m)) := fun j hj => by
    rw [hlr j hj]
    exact ⟨by omega, by omega, by rw [Int.toNat_natCast]; exact hgw j hj⟩
  have hQ := r4 (List.range m) (by rw [r1]; exact List.mem_cons_self ..)
  have hT : bo E p = (rs.map (List.map (gw E p))).foldl (stO E p) (stO E p (-1, []) ((List.range m).map (gw E p))) := by
    unfold bo
    rw [pm_map hg hp4, ← hm, r1, List.map_cons, List.foldl_cons]
  have hev2 : evs (vE (rowM N (33 + 9 + 1 + 1 * p) f) 33) (shE E p ((List.range m).map (gw E p))) := by
    have z := row_ev hev hp4 (F := f) (l := (List.range m).map (gw E p)) (by rw [List.length_map, List.length_range]; omega) (fun j hj => by
      rw [List.length_map] at hj
      rw [lfn_map hj]
      exact (hrl j (by rw [List.length_range] at hj; exact hj)).2.2)
    exact z
  refine L_fo E N hg p hp m hm hm5 (bo E p) (fun K h1 h2 => ?_) rs.length (List.range m) rs (-1, []) 0 _ rfl (by omega) r2 hQ (fun L hL => r4 L (by rw [r1]; exact List.mem_cons_of_mem _ hL)) hT (by dsimp only; omega) (Or.inl rfl) (by rw [rowM_s]; exact hrl) hev2 (fo_row hp4 ⟨rfl, fun _ _ => rfl⟩)
  exact ⟨rfl, ⟨fun a ha => by rw [h1.2 a (by omega), hN.2.1 a (by omega)], by rw [h1.2 61 (by omega), hN.2.1 61 (by omega)], fun a _ => by rw [h1.1, hN.1]⟩, fun j hj => h2 j (by omega)⟩
