theorem wi_all {E : Ev} {p : Nat} {f : Nat → Int} : ∀ n i, (∀ k, i ≤ k → k < i + n → s_mf E p f k) → s_wi E p f n i = -1
  | 0, _, _ => rfl
  | n + 1, i, h => by
    rw [s_wi, if_pos (h i (Nat.le_refl _) (by omega))]
    exact wi_all n (i + 1) (fun k h1 h2 => h k (by omega) (by omega))
theorem ush_c {E : Ev} {p n : Nat} {f g : Nat → Int} (h : ∀ i, i < n → f i = g i) : u_sh E f n p = u_sh E g n p := by
  unfold u_sh
  refine Prod.ext rfl (funext fun q => ?_)
  by_cases z : q = p
  · simp only [if_pos z]
    funext i
    by_cases z2 : i < n
    · rw [if_pos z2, if_pos z2]; exact h i z2
    · rw [if_neg z2, if_neg z2]
  · simp only [if_neg z]
theorem pr_o {M : Mm} {A a n : Nat} {f : Nat → Int} (h : a ≠ A) : (pr M A f n).1 a = M.1 a := by
  unfold pr
  simp [h]
theorem wL_s {M : Mm} {a i : Nat} {v : Int} : (en_wL M a i v).2 a i = v := by simp [en_wL]
theorem wL_n {M : Mm} {a i j : Nat} {v : Int} (h : j ≠ i) : (en_wL M a i v).2 a j = M.2 a j := by simp [en_wL, h]
theorem wL_o {M : Mm} {a b i : Nat} {v : Int} (h : b ≠ a) : (en_wL M a i v).2 b = M.2 b := by simp [en_wL, h]
theorem rdI_wL {f : Nat → Int} {Z : Nat} {E : Ev} {M K : Mm} {k : Tk} {c i : Nat} {v : Int} (h : rdI f Z E M K k c) : rdI f Z E M (en_wL K 64 i v) k c := by
  obtain ⟨h1, h2, h3, h4, h5, h6, h7⟩ := h
  exact ⟨h1, h2, h3, h4, h5, h6, h7.1, h7.2.1, fun a ha => by rw [wL_o ha]; exact h7.2.2 a ha⟩
theorem she_mf {f : Nat → Int} {E : Ev} (hg : s_ok E) {p t : Nat} {k : Tk} {g G : Nat → Int} (h1 : ∀ i, i < t → G i = g i) (h2 : G t = if k.2.2 - k.1 ≤ 3 then vl f k else -1) (hok : ∀ i, i < t → s_mf E p g i) : s_wi E p G (t + 1) 0 = -1 ↔ s_mf E p (upf g t (vl f k)) t := by
  have hW := hg.1.2.1
  have key : G t = vl f k → (s_mf E p G t ↔ s_mf E p (upf g t (vl f k)) t) := fun e => mf_ev evs_rfl hg (fun i hi => by
    by_cases z : i = t
    · rw [z, upf_s]; exact e
    · rw [upf_n z]; exact h1 i (by omega)) (fun i hi => by
    have h3 := mf_ev (p := p) (n := i) (g := G) (g' := g) evs_rfl hg (fun j hj => h1 j (by omega))
    have h4 : ∀ i, i < t → s_mf E p G i := by
      intro i
      induction i using Nat.strongRecOn with
      | ind i ih => exact fun hi => (mf_ev (p := p) (n := i) (g := G) (g' := g) evs_rfl hg (fun j hj => h1 j (by omega)) (fun j hj => ih j hj (by omega))).mpr (hok i hi)
    exact h4 i hi)
  have hall : ∀ i, i < t → s_mf E p G i := by
    intro i
    induction i using Nat.strongRecOn with
    | ind i ih => exact fun hi => (mf_ev (p := p) (n := i) (g := G) (g' := g) evs_rfl hg (fun j hj => h1 j (by omega)) (fun j hj => ih j hj (by omega))).mpr (hok i hi)
  constructor
  · intro z
    have hm := wi_ok _ _ z t (Nat.zero_le _) (by omega)
    by_cases hl : k.2.2 - k.1 ≤ 3
    · rw [if_pos hl] at h2
      exact (key h2).mp hm
    · rw [if_neg hl] at h2
      have := hm.1.1
      omega
  · intro z
    by_cases hl : k.2.2 - k.1 ≤ 3
    · rw [if_pos hl] at h2
      have hm := (key h2).mpr z
      exact wi_all _ _ (fun j _ hj => by
        by_cases e : j = t
        · rw [e]; exact hm
        · exact hall j (by omega))
    · have h3 := z.1.2
      rw [upf_s] at h3
      have : vl f k = 10000 := by unfold vl fg; rw [if_neg hl]
      omega
theorem L_she {post : Option AV → Mm → Prop} (f : Nat → Int) (Z : Nat) (E : Ev) (hg : s_ok E) (M : Mm) (p : Nat) (hp : (p : Int) < E.1 0 2) (T : Rs) (hx : ∀ (K : Mm) (r : Option AV), outC f Z M K T r → post r K) : ∀ (n : Nat) (t : Nat) (K : Mm) (k : Tk) (g : Nat → Int), (t + n = 5) → (rdI f Z E M K k 1) → (∀ i, i < t → K.2 64 i = g i) → (∀ i, i < t → s_mf E p g i) → (shR f Z E p n t g k = T) → en_AW 6 0 56 post 29 [some (.inr (.inr (1, 3, 61))), some (.inr (.inr (1, 1, 33))), some (.inl ((p : Nat) : Int)), some (.inl ((t : Nat) : Int))] [] K 0 := by
  intro n
  induction n with
  | zero =>
    intro t K k g ht h hgK hok hT
    obtain ⟨n0, n1, n2, -⟩ := hg.1
    have k4 : K.1 61 4 = k.2.1 := h.2.2.2.1.2.1
    have kb := h.2.2.1.2.1
    refine aw_56_29 ?_
    refine br_ge_y (a := ((t : Nat) : Int)) (b := 5) (by omega) (by omega) (by omega) ?_
    refine aw_56_81 ?_
    refine br_ne (a := K.1 61 4) (b := 2) (by omega) (by omega) (fun q2 => ?_) (fun q2 => ?_)
    · refine aw_56_91 ?_
      refine ⟨1, 0, by first | decide | omega, by first | decide | omega, en_Ct_eq (R_put 33 K p (by omega) 64 5 t (by omega) (by omega)) ?_⟩
      refine ⟨Or.inr rfl, hx _ _ (out_so (X := u_sh E g t p) h (by rw [← hT, shR, if_neg (by omega)]) ?_ ?_ ?_ ?_)⟩
      · refine frG_w ⟨fun a ha => ?_, ⟨?_, ?_⟩, h.2.2.2.2.2.2.2.2⟩ (by decide)
        · rw [pr_o (by omega)]; exact h.2.2.2.2.2.2.1 a ha
        · rw [pr_o (by omega)]; exact h.2.2.2.2.2.2.2.1.1
        · rw [pr_o (by omega)]; exact h.2.2.2.2.2.2.2.1.2
      · rw [wI_ne (by decide), pr_o (by omega)]
      · rw [wI_ne (by decide), pr_o (by omega)]
      · rw [← ush_c hgK]
        exact isE_sh h.2.2.2.2.2.1 (by omega)
    · exact ⟨Or.inl rfl, hx _ _ (out_no h (by rw [← hT, shR, if_pos (by omega)]))⟩
  | succ n ih =>
    intro t K k g ht h hgK hok hT
    obtain ⟨n0, n1, n2, -⟩ := hg.1
    have k4 : K.1 61 4 = k.2.1 := h.2.2.2.1.2.1
    have kb := h.2.2.1.2.1
    refine aw_56_29 ?_
    refine br_ge_n (a := ((t : Nat) : Int)) (b := 5) (by omega) (by omega) (by omega) ?_
    refine br_ne (a := K.1 61 4) (b := 2) (by omega) (by omega) (fun q2 => ?_) (fun q2 => ?_)
    · refine aw_56_81 ?_
      refine br_ne (a := K.1 61 4) (b := 2) (by omega) (by omega) (fun q3 => ?_) (fun q3 => ?_)
      · refine aw_56_91 ?_
        refine ⟨1, 0, by first | decide | omega, by first | decide | omega, en_Ct_eq (R_put 33 K p (by omega) 64 5 t (by omega) (by omega)) ?_⟩
        refine ⟨Or.inr rfl, hx _ _ (out_so (X := u_sh E g t p) h (by rw [← hT, shR, if_neg (by omega)]) ?_ ?_ ?_ ?_)⟩
        · refine frG_w ⟨fun a ha => ?_, ⟨?_, ?_⟩, h.2.2.2.2.2.2.2.2⟩ (by decide)
          · rw [pr_o (by omega)]; exact h.2.2.2.2.2.2.1 a ha
          · rw [pr_o (by omega)]; exact h.2.2.2.2.2.2.2.1.1
          · rw [pr_o (by omega)]; exact h.2.2.2.2.2.2.2.1.2
        · rw [wI_ne (by decide), pr_o (by omega)]
        · rw [wI_ne (by decide), pr_o (by omega)]
        · rw [← ush_c hgK]
          exact isE_sh h.2.2.2.2.2.1 (by omega)
      · exfalso
        omega
    · have vb := vl_b h.2.2.1.1.1 h.2.2.1.2.2.1 (by omega)
      refine ⟨1, 0, by first | decide | omega, by first | decide | omega, en_Ct_eq (R_value f Z K h.1 k h.2.2.1.1 h.2.2.1.2.2.1 h.2.2.2.1 (by omega)) ?_⟩
      refine ⟨t, rfl, (show t < 5 by omega), ?_⟩
      have hvv : en_wr (if k.2.2 - k.1 ≤ 3 then vl f k else -1) = (if k.2.2 - k.1 ≤ 3 then vl f k else -1) := en_wr_of ⟨by split <;> omega, by split <;> omega⟩
      have hG1 : ∀ i, i < t → (en_wL K 64 t (en_wr (if k.2.2 - k.1 ≤ 3 then vl f k else -1))).2 64 i = g i := fun i hi => by rw [wL_n (by omega)]; exact hgK i hi
      have hG2 : (en_wL K 64 t (en_wr (if k.2.2 - k.1 ≤ 3 then vl f k else -1))).2 64 t = (if k.2.2 - k.1 ≤ 3 then vl f k else -1) := by rw [wL_s]; exact hvv
      have hmf := she_mf (f := f) hg (p := p) (k := k) hG1 hG2 hok
      have hwb := wi_b (E := E) (p := p) (f := (en_wL K 64 t (en_wr (if k.2.2 - k.1 ≤ 3 then vl f k else -1))).2 64) (t + 1) 0
      have hrg : ∀ i : Nat, i < (((t : Nat) : Int) + 1).toNat → -9223372036854775808 ≤ (en_wL K 64 t (en_wr (if k.2.2 - k.1 ≤ 3 then vl f k else -1))).2 64 i ∧ (en_wL K 64 t (en_wr (if k.2.2 - k.1 ≤ 3 then vl f k else -1))).2 64 i < 9223372036854775808 := fun i hi => by
        by_cases z : i = t
        · rw [z, hG2]; split <;> omega
        · rw [hG1 i (by omega)]
          have := (hok i (by omega)).1
          omega
      refine ⟨3, 0, by first | decide | omega, by first | decide | omega, en_Ct_eq (X_fw (M := (en_wL K 64 t (en_wr (if k.2.2 - k.1 ≤ 3 then vl f k else -1)))) (e := 33) (E := E) (rdI_wL h).2.2.2.2.2.1 hg (x := ((p : Nat) : Int)) (n := ((t : Nat) : Int) + 1) (by omega) (by omega) 64 5 (by omega) (by omega) (by decide) hrg) ?_⟩
      refine br_eq (a := s_wi E p ((en_wL K 64 t (en_wr (if k.2.2 - k.1 ≤ 3 then vl f k else -1))).2 64) (t + 1) 0) (b := (-1)) (by omega) (by omega) (fun q4 => ?_) (fun q4 => ?_)
      · refine aw_56_71 ?_
        refine ⟨3, 0, by first | decide | omega, by first | decide | omega, en_Ct_mono (C_step (rdI_wL h)) ?_⟩
        rintro _ K2 ⟨rfl, h2, nK2, lK2⟩
        have hsm := hmf.mp (by omega)
        exact ih (t + 1) K2 (tok f Z k.2.2) (upf g t (vl f k)) (by omega) h2 (fun i hi => by
          rw [lK2]
          by_cases z : i = t
          · rw [z, upf_s, wL_s, hvv]
            have h3 := hsm.1.2
            rw [upf_s] at h3
            by_cases hl : k.2.2 - k.1 ≤ 3
            · rw [if_pos hl]
            · have : vl f k = 10000 := by unfold vl fg; rw [if_neg hl]
              omega
          · rw [upf_n z, wL_n z]; exact hgK i (by omega)) (fun i hi => by
          by_cases z : i = t
          · rw [z]; exact hsm
          · exact (mf_up (by omega)).mpr (hok i (by omega))) (by rw [shR, if_pos (by omega), if_pos hsm] at hT; exact hT)
      · exact ⟨Or.inl rfl, hx _ _ (out_no (rdI_wL h) (by rw [← hT, shR, if_pos (by omega), if_neg (fun z => by have := hmf.mpr z; omega)]))⟩
theorem C_she (f : Nat → Int) (Z : Nat) (E : Ev) (hg : s_ok E) (M : Mm) (k : Tk) (h : rdI f Z E M M k 0) : en_Ct 6 0 56 [.inr (.inr (1, 3, 61)), .inr (.inr (1, 1, 33))] M (fun r M' => outC f Z M M' (sShe f Z E (M.2 64) (tok f Z k.2.2)) r) := by
  obtain ⟨n0, n1, n2, -⟩ := hg.1
  refine ct_56 rfl ?_
  refine aw_56_0 ?_
  refine ⟨3, 0, by first | decide | omega, by first | decide | omega, en_Ct_mono (C_step h) ?_⟩
  rintro _ K1 ⟨rfl, hK1, nK1, lK1⟩
  have e2K1 : K1.1 33 2 = E.1 0 2 := r0_I hK1.2.2.2.2.2.1 2
  by_cases c3 : numO f (tok f Z k.2.2) 0 (E.1 0 2 - 1)
  · refine ⟨4, 0, by first | decide | omega, by first | decide | omega, en_Ct_mono (C_rnT hK1 (by decide) (lo := 0) (hi := (K1.1 33 2) - 1) (by omega) (by omega) (by rw [e2K1]; exact c3)) ?_⟩
    rintro _ K2 ⟨rfl, hK2, nK2, lK2⟩
    refine br_ne_y (by decide) (by decide) (by decide) ?_
    refine aw_56_20 ?_
    refine ⟨0, rfl, (show 0 < 5 by omega), ?_⟩
    have v0 : K2.1 63 0 = vl f (tok f Z k.2.2) := (nK2 0).trans (if_pos rfl)
    obtain ⟨-, b1, b2⟩ := id c3
    obtain ⟨p, hpv⟩ := Int.eq_ofNat_of_zero_le (show 0 ≤ vl f (tok f Z k.2.2) by omega)
    refine en_AW_ls (congrArg (fun z_ : Int => ([some (.inr (.inr (1, 3, 61))), some (.inr (.inr (1, 1, 33))), some (.inl z_), some (.inl 0)] : AL)) (show K2.1 63 0 = ((p : Nat) : Int) from v0.trans hpv)) ?_
    refine L_she f Z E hg M p (by omega) (sShe f Z E (K2.2 64) (tok f Z k.2.2)) (fun K' r hr => ?_) 5 0 K2 (tok f Z (tok f Z k.2.2).2.2) (K2.2 64) rfl hK2 (fun i _ => rfl) (fun i hi => absurd hi (Nat.not_lt_zero i)) ?_
    · rw [lK2, lK1] at hr
      exact hr
    · unfold sShe
      rw [rn_t c3, hpv]
      rfl
  · refine ⟨4, 0, by first | decide | omega, by first | decide | omega, en_Ct_eq (C_rnF hK1 (by decide) (lo := 0) (hi := (K1.1 33 2) - 1) (by omega) (by omega) (by rw [e2K1]; exact c3)) ?_⟩
    refine br_ne_n (by decide) (by decide) (by decide) ?_
    exact ⟨Or.inl rfl, out_no hK1 (by unfold sShe; exact rn_f c3)⟩
