/-! the best sheet: the class's line, and what the others do -/
theorem ins_at {cost : Nat → Int} {w : Nat} : ∀ (l : List Nat) (j : Nat), j ≤ l.length → (∀ k, k < j → cost (l.getD k 0) ≤ cost w) → (∀ k, j ≤ k → k < l.length → cost w < cost (l.getD k 0)) → ins cost w l = l.take j ++ w :: l.drop j
  | [], j, hj, _, _ => by
    have : j = 0 := by simpa using hj
    subst this
    rfl
  | a :: r, 0, _, _, h2 => by
    have := h2 0 (Nat.le_refl _) (by simp)
    have h3 : cost w < cost a := this
    unfold ins
    rw [if_neg (by omega)]
    rfl
  | a :: r, j + 1, hj, h1, h2 => by
    have h3 : cost a ≤ cost w := h1 0 (by omega)
    unfold ins
    rw [if_pos h3, ins_at r j (by simpa using hj) (fun k hk => h1 (k + 1) (by omega)) (fun k hk hk2 => h2 (k + 1) (by omega) (by simpa using hk2))]
    rfl
theorem getD_ins {l : List Nat} {w j : Nat} (hj : j ≤ l.length) (k : Nat) : (l.take j ++ w :: l.drop j).getD k 0 = if k < j then l.getD k 0 else if k = j then w else l.getD (k - 1) 0 := by
  rw [List.getD_eq_getElem?_getD]
  have hl : (l.take j).length = j := by rw [List.length_take]; omega
  by_cases h1 : k < j
  · rw [if_pos h1, List.getElem?_append_left (by omega), List.getElem?_take_of_lt h1, List.getD_eq_getElem?_getD]
  · rw [if_neg h1, List.getElem?_append_right (by omega), hl]
    by_cases h2 : k = j
    · subst h2
      rw [if_pos rfl, Nat.sub_self]
      rfl
    · rw [if_neg h2]
      obtain ⟨m, hm⟩ : ∃ m, k - j = m + 1 := ⟨k - j - 1, by omega⟩
      rw [hm, List.getElem?_cons_succ, List.getElem?_drop, List.getD_eq_getElem?_getD, show j + m = k - 1 by omega]
/-- within the seeker's block; what was asked for stays -/
def frB (M K : Mm) : Prop := fr 52 61 M K ∧ ∀ i, i = 3 ∨ i = 5 ∨ i = 6 ∨ i = 7 → K.1 52 i = M.1 52 i
theorem frB_rfl {M : Mm} : frB M M := ⟨fr_rfl, fun _ _ => rfl⟩
theorem frB_tr {M K K' : Mm} (h : frB M K) (h' : frB K K') : frB M K' := ⟨fr_tr h.1 h'.1, fun i hi => (h'.2 i hi).trans (h.2 i hi)⟩
theorem frB_w {M K : Mm} {a i : Nat} {x : Int} (h : frB M K) (h0 : 52 < a) (h1 : a < 61) : frB M (en_wI K a i x) := ⟨fr_w h.1 (by omega) h1, fun j hj => by rw [wI_ne (by omega)]; exact h.2 j hj⟩
theorem frB_c {M K : Mm} {j : Nat} {x : Int} (h : frB M K) (hj : ¬ (j = 3 ∨ j = 5 ∨ j = 6 ∨ j = 7)) : frB M (en_wI K 52 j x) := ⟨fr_w h.1 (by omega) (by omega), fun i hi => by
  have : i ≠ j := fun z => hj (z ▸ hi)
  simp only [en_wI, if_true, if_neg this]
  exact h.2 i hi⟩
/-- the line as far as it is read: words and what they take -/
def isLn (K : Mm) (E : Ev) (l : List Nat) : Prop := K.1 52 8 = ((l.length : Nat) : Int) ∧ ∀ k, k < l.length → K.1 53 k = ((l.getD k 0 : Nat) : Int) ∧ K.1 54 k = s_cost E (l.getD k 0)
theorem isLn_fr {K K' : Mm} {E : Ev} {l : List Nat} (h : isLn K E l) (h8 : K'.1 52 8 = K.1 52 8) (h1 : K'.1 53 = K.1 53) (h2 : K'.1 54 = K.1 54) : isLn K' E l := by
  unfold isLn
  rw [h8, h1, h2]
  exact h
theorem L_shift {post : Option AV → Mm → Prop} (e : Nat) (E : Ev) (M : Mm) (p w : Nat) (c : Int) (l : List Nat) (hc : 0 ≤ c ∧ c ≤ 1000) (hl : l.length < 24) (hlc : ∀ k, k < l.length → 0 ≤ s_cost E (l.getD k 0) ∧ s_cost E (l.getD k 0) ≤ 74) (hx : ∀ (j : Nat) (K : Mm), j ≤ l.length → frB M K → K.1 52 8 = ((l.length : Nat) : Int) → (∀ k, k < j → K.1 53 k = ((l.getD k 0 : Nat) : Int) ∧ K.1 54 k = s_cost E (l.getD k 0)) → (∀ k, j ≤ k → k < l.length → K.1 53 (k + 1) = ((l.getD k 0 : Nat) : Int) ∧ K.1 54 (k + 1) = s_cost E (l.getD k 0)) → (∀ k, j ≤ k → k < l.length → c < s_cost E (l.getD k 0)) → (j = 0 ∨ s_cost E (l.getD (j - 1) 0) ≤ c) → en_AW 4 0 2 post 94 [some (.inr (.inr (1, 0, 52))), some (.inr (.inr (1, 1, e))), some (.inl ((p : Nat) : Int)), some (.inl ((w : Nat) : Int)), some (.inl c), some (.inl ((j : Nat) : Int))] [] K 0) : ∀ (n : Nat) (j : Nat) (K : Mm), (j = n) → (j ≤ l.length) → (frB M K) → (K.1 52 8 = ((l.length : Nat) : Int)) → (∀ k, k < j → K.1 53 k = ((l.getD k 0 : Nat) : Int) ∧ K.1 54 k = s_cost E (l.getD k 0)) → (∀ k, j ≤ k → k < l.length → K.1 53 (k + 1) = ((l.getD k 0 : Nat) : Int) ∧ K.1 54 (k + 1) = s_cost E (l.getD k 0)) → (∀ k, j ≤ k → k < l.length → c < s_cost E (l.getD k 0)) → en_AW 4 0 2 post 37 [some (.inr (.inr (1, 0, 52))), some (.inr (.inr (1, 1, e))), some (.inl ((p : Nat) : Int)), some (.inl ((w : Nat) : Int)), some (.inl c), some (.inl ((j : Nat) : Int))] [] K 0 := by
  intro n
  induction n with
  | zero =>
    intro j K hn hj hF h8 hA hB hC
    refine aw_2_37 ?_
    refine br_le_y (a := ((j : Nat) : Int)) (b := 0) (by omega) (by omega) (by omega) ?_
    exact hx j K hj hF h8 hA hB hC (Or.inl hn)
  | succ n ih =>
    intro j K hn hj hF h8 hA hB hC
    have qn := hA n (by omega)
    obtain ⟨q53, q54⟩ := qn
    have etn : (((j : Nat) : Int) - 1).toNat = n := by omega
    have qc := hlc n (by omega)
    have e54 : K.1 54 (((j : Nat) : Int) - 1).toNat = s_cost E (l.getD n 0) := by rw [etn]; exact q54
    refine aw_2_37 ?_
    refine br_le_n (a := ((j : Nat) : Int)) (b := 0) (by omega) (by omega) (by omega) ?_
    refine ⟨(((j : Nat) : Int) - 1).toNat, it_nn (x := ((j : Nat) : Int) - 1) (by omega), (show (((j : Nat) : Int) - 1).toNat < 24 by omega), ?_⟩
    refine br_le (a := K.1 54 ((((j : Nat) : Int) - 1).toNat)) (b := c) (by omega) (by omega) (fun q2 => ?_) (fun q2 => ?_)
    · exact hx j K hj hF h8 hA hB hC (Or.inr (by rw [show j - 1 = n by omega]; omega))
    · refine ⟨(((j : Nat) : Int) - 1).toNat, it_nn (x := ((j : Nat) : Int) - 1) (by omega), (show (((j : Nat) : Int) - 1).toNat < 24 by omega), ?_⟩
      refine ⟨j, rfl, (show j < 24 by omega), ?_⟩
      refine ⟨(((j : Nat) : Int) - 1).toNat, it_nn (x := ((j : Nat) : Int) - 1) (by omega), (show (((j : Nat) : Int) - 1).toNat < 24 by omega), ?_⟩
      refine ⟨j, rfl, (show j < 24 by omega), ?_⟩
      refine en_AW_ls (congrArg (fun z_ : Int => ([some (.inr (.inr (1, 0, 52))), some (.inr (.inr (1, 1, e))), some (.inl ((p : Nat) : Int)), some (.inl ((w : Nat) : Int)), some (.inl c), some (.inl z_)] : AL)) (show ((j : Nat) : Int) + (-1) = ((n : Nat) : Int) by omega)) ?_
      refine ih n _ rfl (by omega) (frB_w (frB_w hF (by decide) (by decide)) (by decide) (by decide)) (by rw [wI_ne (by decide), wI_ne (by decide)]; exact h8) (fun k hk => ?_) (fun k hk hk2 => ?_) (fun k hk hk2 => ?_)
      · have e1 : k ≠ j := by omega
        have := hA k (by omega)
        simp only [en_wI]
        simp [e1, this.1, this.2]
      · by_cases hkn : k = n
        · subst hkn
          have hj1 : k + 1 = j := by omega
          rw [hj1]
          simp only [en_wI]
          simp [etn, q53, q54]
        · have := hB k (by omega) hk2
          have e1 : k + 1 ≠ j := by omega
          simp only [en_wI]
          simp [e1, this.1, this.2]
      · by_cases hkn : k = n
        · subst hkn; omega
        · exact hC k (by omega) hk2
theorem L_line1 {post : Option AV → Mm → Prop} (e : Nat) (E : Ev) (M : Mm) (hE : isE M e E) (hg : s_ok E) (he : e + 16 ≤ 49) (p : Nat) (hp : p < 4) (hx : ∀ K : Mm, frB M K → isLn K E (lin E p) → en_AW 4 0 2 post 127 [some (.inr (.inr (1, 0, 52))), some (.inr (.inr (1, 1, e))), some (.inl ((p : Nat) : Int)), none, none, none] [] K 0) : ∀ (n : Nat) (i : Nat) (K : Mm), (((i : Nat) : Int) + ((n : Nat) : Int) = E.1 0 1) → (frB M K) → (isLn K E (lnp E p i)) → en_AW 4 0 2 post 7 [some (.inr (.inr (1, 0, 52))), some (.inr (.inr (1, 1, e))), some (.inl ((p : Nat) : Int)), some (.inl ((i : Nat) : Int)), none, none] [] K 0 := by
  intro n
  induction n with
  | zero =>
    intro i K hi hF hLn
    obtain ⟨n0, n1, n2, a0, a1, a2, a3, a4, a5, a6, a7⟩ := hg.1
    have hI : isE K e E := isE_o hE hF.1 (Or.inl (by omega))
    have k0 := r0_I hI 0
    have k1 := r0_I hI 1
    have k2 := r0_I hI 2
    refine aw_2_7 ?_
    refine br_ge_y (a := ((i : Nat) : Int)) (b := K.1 e 1) (by omega) (by omega) (by omega) ?_
    refine en_AW_drop [true, true, true, false, true, true] ?_
    exact hx K hF (by unfold lin; rw [show (E.1 0 1).toNat = i by omega]; exact hLn)
  | succ n ih =>
    intro i K hi hF hLn
    obtain ⟨n0, n1, n2, a0, a1, a2, a3, a4, a5, a6, a7⟩ := hg.1
    have hI : isE K e E := isE_o hE hF.1 (Or.inl (by omega))
    have k0 := r0_I hI 0
    have k1 := r0_I hI 1
    have k2 := r0_I hI 2
    have hlen := lnp_len (E := E) (p := p) i
    have h8 := hLn.1
    refine aw_2_7 ?_
    refine br_ge_n (a := ((i : Nat) : Int)) (b := K.1 e 1) (by omega) (by omega) (by omega) ?_
    by_cases c2 : s_can E p i = true
    · refine ⟨2, 0, by first | decide | omega, by first | decide | omega, en_Ct_t (W_can (e := e) (E := E) (M := K) hI hg (p := p) (x := ((i : Nat) : Int)) (by omega) (by omega) (by omega)) c2 ?_⟩
      refine br_eq_n (by decide) (by decide) (by decide) ?_
      refine ⟨1, 0, by first | decide | omega, by first | decide | omega, en_Ct_eq (W_cost (e := e) (E := E) (M := K) hI hg (x := ((i : Nat) : Int)) (by omega) (by omega)) ?_⟩
      have cb4 := s_cost_b (hg.2.1 i (by omega))
      have elnp : lnp E p (i + 1) = ins (s_cost E) i (lnp E p i) := if_pos (by assumption)
      refine en_AW_ls (congrArg (fun z_ : Int => ([some (.inr (.inr (1, 0, 52))), some (.inr (.inr (1, 1, e))), some (.inl ((p : Nat) : Int)), some (.inl ((i : Nat) : Int)), some (.inl (s_cost E i)), some (.inl z_)] : AL)) hLn.1) ?_
      refine L_shift e E M p i (s_cost E i) (lnp E p i) (by omega) (by omega) (fun k hk => ?_) (fun j K2 hj2 hF2 h82 hA2 hB2 hC2 hD2 => ?_) (lnp E p i).length _ K rfl (Nat.le_refl _) hF hLn.1 hLn.2 (fun k h1 h2 => by omega) (fun k h1 h2 => by omega)
      · have hm := (lnp_mem i).mp (getD_mem hk)
        have := s_cost_b (hg.2.1 ((lnp E p i).getD k 0) (by omega))
        omega
      refine aw_2_94 ?_
      refine ⟨j, rfl, (show j < 24 by omega), ?_⟩
      refine ⟨j, rfl, (show j < 24 by omega), ?_⟩
      refine en_AW_drop [true, true, true, true, false, false] ?_
      refine aw_2_121 ?_
      have hlen : (lnp E p (i + 1)).length = (lnp E p i).length + 1 := by rw [elnp, ins_len]
      refine ih (i + 1) _ (by omega) (frB_c (frB_w (frB_w hF2 (by decide) (by decide)) (by decide) (by decide)) (by decide)) ⟨?_, fun k hk => ?_⟩
      · rw [hlen]
        simp only [en_wI]
        simp [h82]
      · rw [elnp, ins_at (lnp E p i) j hj2 (fun k hk => ?_) (fun k hk hk2 => hC2 k hk hk2), getD_ins hj2]
        · simp only [en_wI]
          by_cases z1 : k < j
          · have e1 : k ≠ j := by omega
            have := hA2 k z1
            simp [z1, e1, this.1, this.2]
          · by_cases z2 : k = j
            · subst z2; simp
            · have := hB2 (k - 1) (by omega) (by omega)
              rw [show k - 1 + 1 = k by omega] at this
              simp [z1, z2, this.1, this.2]
        · rcases hD2 with z | z
          · omega
          · have hs := lnp_sorted (E := E) (p := p) i
            by_cases hkj : k = j - 1
            · rw [hkj]; exact z
            · have hp := List.pairwise_iff_getElem.mp hs k (j - 1) (by omega) (by omega) (by omega)
              have ek : (lnp E p i).getD k 0 = (lnp E p i)[k] := by rw [List.getD_eq_getElem?_getD, List.getElem?_eq_getElem (by omega)]; rfl
              have ej : (lnp E p i).getD (j - 1) 0 = (lnp E p i)[j - 1] := by rw [List.getD_eq_getElem?_getD, List.getElem?_eq_getElem (by omega)]; rfl
              rw [ek]
              rw [ej] at z
              unfold lt2 at hp
              omega
    · refine ⟨2, 0, by first | decide | omega, by first | decide | omega, en_Ct_f (W_can (e := e) (E := E) (M := K) hI hg (p := p) (x := ((i : Nat) : Int)) (by omega) (by omega) (by omega)) c2 ?_⟩
      refine br_eq_y (by decide) (by decide) (by decide) ?_
      refine aw_2_121 ?_
      have elnp : lnp E p (i + 1) = lnp E p i := if_neg (by assumption)
      exact ih (i + 1) K (by omega) hF (by rw [elnp]; exact hLn)
theorem L_line2 {post : Option AV → Mm → Prop} (e : Nat) (E : Ev) (M : Mm) (hE : isE M e E) (hg : s_ok E) (he : e + 16 ≤ 49) (p : Nat) (hp : p < 4) (hx : ∀ K : Mm, frB M K → isLn K E (lin E p) → (∀ k, k < (lin E p).length → K.1 55 k = ((2 ^ (E.1 4 ((lin E p).getD k 0)).toNat : Nat) : Int) ∧ K.1 56 k = if s_vote E ((lin E p).getD k 0) = true then 1 else 0) → post none K) : ∀ (n : Nat) (i : Nat) (K : Mm), (i + n = (lin E p).length) → (frB M K) → (isLn K E (lin E p)) → ((∀ k, k < i → K.1 55 k = ((2 ^ (E.1 4 ((lin E p).getD k 0)).toNat : Nat) : Int) ∧ K.1 56 k = if s_vote E ((lin E p).getD k 0) = true then 1 else 0)) → en_AW 4 0 2 post 129 [some (.inr (.inr (1, 0, 52))), some (.inr (.inr (1, 1, e))), some (.inl ((p : Nat) : Int)), some (.inl ((i : Nat) : Int)), none, none] [] K 0 := by
  intro n
  induction n with
  | zero =>
    intro i K hi hF hLn hCb
    have h8 := hLn.1
    have hl := lnp_len (E := E) (p := p) (E.1 0 1).toNat
    have n1 := hg.1.2.1
    have hl2 : (lin E p).length ≤ 24 := Nat.le_trans hl (by omega)
    refine aw_2_129 ?_
    refine br_ge_y (a := ((i : Nat) : Int)) (b := K.1 52 8) (by omega) (by omega) (by omega) ?_
    refine aw_2_178 ?_
    exact hx K hF hLn (fun k hk => hCb k (by omega))
  | succ n ih =>
    intro i K hi hF hLn hCb
    obtain ⟨n0, n1, n2, a0, a1, a2, a3, a4, a5, a6, a7⟩ := hg.1
    have hI : isE K e E := isE_o hE hF.1 (Or.inl (by omega))
    have k0 := r0_I hI 0
    have k1 := r0_I hI 1
    have k2 := r0_I hI 2
    have h8 := hLn.1
    have hl := lnp_len (E := E) (p := p) (E.1 0 1).toNat
    have hl2 : (lin E p).length ≤ 24 := Nat.le_trans hl (by omega)
    have hm := lin_mem.mp (getD_mem (l := lin E p) (i := i) (by omega))
    have ew := (hLn.2 i (by omega)).1
    have hwb : 0 ≤ K.1 53 i ∧ K.1 53 i < E.1 0 1 := by rw [ew]; omega
    have ew2 : (K.1 53 i).toNat = (lin E p).getD i 0 := by rw [ew]; rfl
    have k4 : K.1 (e + 4) = E.1 4 := hI.1 4 (by decide)
    have c4 := (hg.2.1 ((lin E p).getD i 0) (by omega)).2.2.1
    have esh : en_shl 1 (K.1 (e + 4) (K.1 53 i).toNat) = ((2 ^ (E.1 4 ((lin E p).getD i 0)).toNat : Nat) : Int) := by
      rw [k4, ew2]
      have := nu_shl1 (E.1 4 ((lin E p).getD i 0)).toNat (by omega)
      rw [show (((E.1 4 ((lin E p).getD i 0)).toNat : Nat) : Int) = E.1 4 ((lin E p).getD i 0) by omega] at this
      exact this
    have hKw : ∀ x, (en_wI K 55 i x).1 53 = K.1 53 := fun x => wI_ne (by decide)
    have hI0 := hI
    refine aw_2_129 ?_
    refine br_ge_n (a := ((i : Nat) : Int)) (b := K.1 52 8) (by omega) (by omega) (by omega) ?_
    refine ⟨i, rfl, (show i < 24 by omega), ?_⟩
    refine ⟨(K.1 53 i).toNat, it_nn (x := K.1 53 i) (by omega), (show (K.1 53 i).toNat < 24 by omega), ?_⟩
    refine ⟨i, rfl, (show i < 24 by omega), ?_⟩
    refine ⟨i, rfl, (show i < 24 by omega), ?_⟩
    by_cases c2 : s_vote E ((K.1 53 i).toNat) = true
    · refine ⟨2, 0, by first | decide | omega, by first | decide | omega, en_Ct_t (W_vote (e := e) (E := E) (M := (en_wI K 55 i (en_shl 1 (K.1 (e + 4) ((K.1 53 i).toNat))))) (isE_o hE (frB_w hF (by decide) (by decide)).1 (Or.inl (by omega))) hg (x := (K.1 53 i)) (by omega) (by omega)) c2 ?_⟩
      refine ⟨Or.inr rfl, ?_⟩
      refine ⟨i, rfl, (show i < 24 by omega), ?_⟩
      refine ih (i + 1) _ (by omega) (frB_w (frB_w hF (by decide) (by decide)) (by decide) (by decide)) (isLn_fr hLn (by rw [wI_ne (by decide), wI_ne (by decide)]) (by rw [wI_ne (by decide), wI_ne (by decide)]) (by rw [wI_ne (by decide), wI_ne (by decide)])) (fun k hk => ?_)
      by_cases hki : k = i
      · subst hki
        simp only [en_wI]
        simp only [if_true]
        refine ⟨?_, ?_⟩
        · simp
          exact esh
        · exact (if_pos (by rw [← ew2]; assumption)).symm
      · have := hCb k (by omega)
        simp only [en_wI]
        simp [hki, this.1, this.2]
    · refine ⟨2, 0, by first | decide | omega, by first | decide | omega, en_Ct_f (W_vote (e := e) (E := E) (M := (en_wI K 55 i (en_shl 1 (K.1 (e + 4) ((K.1 53 i).toNat))))) (isE_o hE (frB_w hF (by decide) (by decide)).1 (Or.inl (by omega))) hg (x := (K.1 53 i)) (by omega) (by omega)) c2 ?_⟩
      refine ⟨Or.inl rfl, ?_⟩
      refine ⟨i, rfl, (show i < 24 by omega), ?_⟩
      refine ih (i + 1) _ (by omega) (frB_w (frB_w hF (by decide) (by decide)) (by decide) (by decide)) (isLn_fr hLn (by rw [wI_ne (by decide), wI_ne (by decide)]) (by rw [wI_ne (by decide), wI_ne (by decide)]) (by rw [wI_ne (by decide), wI_ne (by decide)])) (fun k hk => ?_)
      by_cases hki : k = i
      · subst hki
        simp only [en_wI]
        simp only [if_true]
        refine ⟨?_, ?_⟩
        · simp
          exact esh
        · exact (if_neg (by rw [← ew2]; assumption)).symm
      · have := hCb k (by omega)
        simp only [en_wI]
        simp [hki, this.1, this.2]
theorem R_lineUp (e : Nat) (E : Ev) (M : Mm) (hE : isE M e E) (hg : s_ok E) (he : e + 16 ≤ 49) (p : Nat) (hp : p < 4) : en_Ct 4 0 2 [.inr (.inr (1, 0, 52)), .inr (.inr (1, 1, e)), .inl ((p : Nat) : Int)] M (fun r M' => r = none ∧ frB M M' ∧ isLn M' E (lin E p) ∧ (∀ k, k < (lin E p).length → M'.1 55 k = ((2 ^ (E.1 4 ((lin E p).getD k 0)).toNat : Nat) : Int) ∧ M'.1 56 k = if s_vote E ((lin E p).getD k 0) = true then 1 else 0)) := by
  obtain ⟨n0, n1, n2, a0, a1, a2, a3, a4, a5, a6, a7⟩ := hg.1
  refine ct_2 rfl ?_
  refine aw_2_0 ?_
  refine L_line1 e E M hE hg he p hp (fun K hF hLn => ?_) (E.1 0 1).toNat 0 _ (by omega) (frB_c frB_rfl (by decide)) ⟨by simp [en_wI, lnp], fun k hk => absurd hk (Nat.not_lt_zero k)⟩
  refine aw_2_127 ?_
  exact L_line2 e E M hE hg he p hp (fun K2 hF2 hLn2 hC2 => ⟨rfl, hF2, hLn2, hC2⟩) _ 0 K (Nat.zero_add _) hF hLn (fun k hk => absurd hk (Nat.not_lt_zero k))
