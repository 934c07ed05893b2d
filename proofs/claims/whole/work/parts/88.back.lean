/-! back -/
def bkX (M : Mm) (s : Nat) : Nat → Int := if M.1 (68 + 2 * s) 0 = 10 ∧ ¬ (0 ≤ M.1 (68 + 2 * s) 2 ∧ M.1 (68 + 2 * s) 2 < M.1 1 1) then (clS M (68 + 2 * s)).1 (68 + 2 * s) else M.1 (68 + 2 * s)
def bkM (M : Mm) (s : Nat) : Int := if M.1 85 s = 2 ∧ M.1 84 10 ≤ M.1 98 s then 0 else M.1 85 s
theorem clS_ne {M : Mm} {A a : Nat} (h : a ≠ A) : (clS M A).1 a = M.1 a := by simp [clS, en_wI, h]
theorem clS_c {M K : Mm} {A : Nat} (h : K.1 A = M.1 A) : (clS K A).1 A = (clS M A).1 A := by simp [clS, en_wI, h]
theorem L_backX {post : Option AV → Mm → Prop} (M : Mm) (hg : s_ok (vE M 1)) (hS : ∀ k : Nat, k < 8 → (-1 ≤ M.1 (68 + 2 * k) 0 ∧ M.1 (68 + 2 * k) 0 ≤ 10) ∧ (M.1 (68 + 2 * k) 0 = 10 → 0 ≤ M.1 (68 + 2 * k) 2 ∧ M.1 (68 + 2 * k) 2 ≤ 100)) (hx : ∀ K : Mm, (∀ a, a < 68 ∨ 84 ≤ a → K.1 a = M.1 a) → K.2 = M.2 → (∀ s, s < 8 → K.1 (68 + 2 * s) = bkX M s) → post (some (.inl 1)) K) : ∀ (n : Nat) (i : Nat) (K : Mm), (i + n = 8) → (∀ a, a < 68 ∨ 84 ≤ a → K.1 a = M.1 a) → (K.2 = M.2) → (∀ s, s < 8 → K.1 (68 + 2 * s) = if s < i then bkX M s else M.1 (68 + 2 * s)) → en_AW 9 0 117 post 27 [some (.inr (.inr (1, 5, 0))), some (.inl ((i : Nat) : Int))] [] K 0 := by
  intro n
  induction n with
  | zero =>
    intro i K hi hf hL hs
    refine aw_117_27 ?_
    refine br_ge_y (a := ((i : Nat) : Int)) (b := 8) (by omega) (by omega) (by omega) ?_
    refine aw_117_79 ?_
    exact hx K hf hL (fun s hs8 => by rw [hs s hs8, if_pos (by omega)])
  | succ n ih =>
    intro i K hi hf hL hs
    have hw := hS i (by omega)
    have e0 : K.1 (68 + 2 * i) = M.1 (68 + 2 * i) := by rw [hs i (by omega), if_neg (by omega)]
    rw [← e0] at hw
    have k11 : K.1 1 1 = M.1 1 1 := by rw [hf 1 (by omega)]
    have hI := isE_fr (M' := K) (isE_self (M := M) (e := 1)) (fun a h0 h1 => hf a (by omega))
    refine aw_117_27 ?_
    refine br_ge_n (a := ((i : Nat) : Int)) (b := 8) (by omega) (by omega) (by omega) ?_
    refine ⟨i, rfl, (show i < 8 by omega), ?_⟩
    by_cases c2 : K.1 (68 + 2 * i) 0 = 10
    · refine ⟨1, 0, by first | decide | omega, by first | decide | omega, en_Ct_t (R_hasWord (68 + 2 * i) K (by omega)) c2 ?_⟩
      refine br_eq_n (by decide) (by decide) (by decide) ?_
      refine ⟨i, rfl, (show i < 8 by omega), ?_⟩
      by_cases c4 : 0 ≤ (K.1 (68 + 2 * i) 2) ∧ (K.1 (68 + 2 * i) 2) < M.1 1 1
      · refine ⟨2, 0, by first | decide | omega, by first | decide | omega, en_Ct_t (X_isWord (M := K) (e := 1) (E := vE M 1) hI hg (x := (K.1 (68 + 2 * i) 2)) (by omega)) c4 ?_⟩
        refine br_ne_y (by decide) (by decide) (by decide) ?_
        refine aw_117_73 ?_
        have e1 : bkX M i = M.1 (68 + 2 * i) := if_neg (by rw [← e0]; omega)
        refine ih (i + 1) _ (by omega) (fun a ha => ?_) hL (fun s hs8 => ?_)
        · exact hf a ha
        · by_cases hsi : s = i
          · subst hsi; rw [if_pos (by omega), e1, e0]
          · rw [hs s hs8]
            by_cases h2 : s < i
            · rw [if_pos h2, if_pos (by omega)]
            · rw [if_neg h2, if_neg (by omega)]
      · refine ⟨2, 0, by first | decide | omega, by first | decide | omega, en_Ct_f (X_isWord (M := K) (e := 1) (E := vE M 1) hI hg (x := (K.1 (68 + 2 * i) 2)) (by omega)) c4 ?_⟩
        refine br_ne_n (by decide) (by decide) (by decide) ?_
        refine ⟨i, rfl, (show i < 8 by omega), ?_⟩
        refine ⟨1, 0, by first | decide | omega, by first | decide | omega, en_Ct_eq (R_clear (68 + 2 * i) K) ?_⟩
        refine aw_117_73 ?_
        have e1 : bkX M i = (clS K (68 + 2 * i)).1 (68 + 2 * i) := by rw [clS_c e0]; exact if_pos (by rw [← e0]; omega)
        refine ih (i + 1) _ (by omega) (fun a ha => ?_) hL (fun s hs8 => ?_)
        · rw [clS_ne (by omega)]; exact hf a ha
        · by_cases hsi : s = i
          · subst hsi; rw [if_pos (by omega), e1]
          · rw [clS_ne (by omega), hs s hs8]
            by_cases h2 : s < i
            · rw [if_pos h2, if_pos (by omega)]
            · rw [if_neg h2, if_neg (by omega)]
    · refine ⟨1, 0, by first | decide | omega, by first | decide | omega, en_Ct_f (R_hasWord (68 + 2 * i) K (by omega)) c2 ?_⟩
      refine br_eq_y (by decide) (by decide) (by decide) ?_
      refine aw_117_73 ?_
      have e1 : bkX M i = M.1 (68 + 2 * i) := if_neg (by rw [← e0]; omega)
      refine ih (i + 1) _ (by omega) (fun a ha => ?_) hL (fun s hs8 => ?_)
      · exact hf a ha
      · by_cases hsi : s = i
        · subst hsi; rw [if_pos (by omega), e1, e0]
        · rw [hs s hs8]
          by_cases h2 : s < i
          · rw [if_pos h2, if_pos (by omega)]
          · rw [if_neg h2, if_neg (by omega)]
theorem L_backM {post : Option AV → Mm → Prop} (M : Mm) (h10 : 0 ≤ M.1 84 10 ∧ M.1 84 10 ≤ 24) (hS : ∀ k : Nat, k < 8 → (0 ≤ M.1 85 k ∧ M.1 85 k ≤ 2) ∧ (M.1 85 k = 2 → 0 ≤ M.1 98 k ∧ M.1 98 k ≤ 100)) (hx : ∀ K : Mm, (∀ a, a ≠ 85 → K.1 a = M.1 a) → K.2 = M.2 → (∀ s, s < 8 → K.1 85 s = bkM M s) → post (some (.inl 1)) K) : ∀ (n : Nat) (i : Nat) (K : Mm), (i + n = 8) → (∀ a, a ≠ 85 → K.1 a = M.1 a) → (K.2 = M.2) → (∀ s, K.1 85 s = if s < i then bkM M s else M.1 85 s) → en_AW 9 0 241 post 24 [some (.inr (.inr (1, 6, 84))), some (.inl ((i : Nat) : Int))] [] K 0 := by
  intro n
  induction n with
  | zero =>
    intro i K hi hf hL hs
    refine aw_241_24 ?_
    refine br_ge_y (a := ((i : Nat) : Int)) (b := 8) (by omega) (by omega) (by omega) ?_
    refine aw_241_66 ?_
    exact hx K hf hL (fun s hs8 => by rw [hs s, if_pos (by omega)])
  | succ n ih =>
    intro i K hi hf hL hs
    have hw := hS i (by omega)
    have e0 : K.1 85 i = M.1 85 i := by rw [hs i, if_neg (by omega)]
    rw [← e0] at hw
    have e98 : K.1 98 i = M.1 98 i := by rw [hf 98 (by omega)]
    have e10 : K.1 84 10 = M.1 84 10 := by rw [hf 84 (by omega)]
    refine aw_241_24 ?_
    refine br_ge_n (a := ((i : Nat) : Int)) (b := 8) (by omega) (by omega) (by omega) ?_
    refine ⟨i, rfl, (show i < 8 by omega), ?_⟩
    refine br_ne (a := K.1 85 i) (b := 2) (by omega) (by omega) (fun q2 => ?_) (fun q2 => ?_)
    · refine aw_241_60 ?_
      have e1 : bkM M i = M.1 85 i := if_neg (by rw [← e0]; omega)
      refine ih (i + 1) _ (by omega) hf hL (fun s => ?_)
      rw [hs s]
      by_cases hsi : s = i
      · subst hsi; rw [if_neg (by omega), if_pos (by omega), e1]
      · by_cases h2 : s < i
        · rw [if_pos h2, if_pos (by omega)]
        · rw [if_neg h2, if_neg (by omega)]
    · refine ⟨i, rfl, (show i < 8 by omega), ?_⟩
      refine br_lt (a := K.1 98 i) (b := K.1 84 10) (by omega) (by omega) (fun q3 => ?_) (fun q3 => ?_)
      · refine aw_241_60 ?_
        have e1 : bkM M i = M.1 85 i := if_neg (by rw [← e0]; omega)
        refine ih (i + 1) _ (by omega) hf hL (fun s => ?_)
        rw [hs s]
        by_cases hsi : s = i
        · subst hsi; rw [if_neg (by omega), if_pos (by omega), e1]
        · by_cases h2 : s < i
          · rw [if_pos h2, if_pos (by omega)]
          · rw [if_neg h2, if_neg (by omega)]
      · refine ⟨i, rfl, (show i < 8 by omega), ?_⟩
        refine aw_241_60 ?_
        have e1 : bkM M i = 0 := if_pos (by rw [← e0]; omega)
        refine ih (i + 1) _ (by omega) (fun a ha => by rw [wI_ne ha]; exact hf a ha) hL (fun s => ?_)
        by_cases hsi : s = i
        · subst hsi
          rw [if_pos (by omega), e1]
          simp [en_wI]
        · have e2 : (en_wI K 85 i 0).1 85 s = K.1 85 s := by simp [en_wI, hsi]
          rw [e2, hs s]
          by_cases h2 : s < i
          · rw [if_pos h2, if_pos (by omega)]
          · rw [if_neg h2, if_neg (by omega)]
theorem R_backX (M : Mm) (h09 : M.1 0 9 = 0 ∨ (M.1 0 9 = 1 ∧ s_ok (vE M 17))) (hS : ∀ k : Nat, k < 8 → (-1 ≤ M.1 (68 + 2 * k) 0 ∧ M.1 (68 + 2 * k) 0 ≤ 10) ∧ (M.1 (68 + 2 * k) 0 = 10 → 0 ≤ M.1 (68 + 2 * k) 2 ∧ M.1 (68 + 2 * k) 2 ≤ 100)) : en_Ct 9 0 117 [.inr (.inr (1, 5, 0))] M (fun r M' => (M.1 0 9 = 0 ∧ r = some (.inl (-5)) ∧ M' = rfX M 3) ∨ (M.1 0 9 = 1 ∧ (r = some (.inl 1) ∧ ∃ N : Mm, cpd M N 1 17 ∧ (∀ a, a < 68 ∨ 84 ≤ a → M'.1 a = N.1 a) ∧ M'.2 = N.2 ∧ ∀ s, s < 8 → M'.1 (68 + 2 * s) = bkX N s))) := by
  refine ct_117 rfl ?_
  refine aw_117_0 ?_
  refine br_ne (a := M.1 0 9) (b := 0) (by omega) (by omega) (fun q1 => ?_) (fun q1 => ?_)
  · refine aw_117_14 ?_
    have h1 : M.1 0 9 = 1 := by omega
    obtain h9 : s_ok (vE M 17) := by
      rcases h09 with z | z
      · omega
      · exact z.2
    refine ⟨1, 0, by first | decide | omega, by first | decide | omega, en_Ct_mono (R_be_1_17 M (fun i hi => h9.2.2.2.2 i hi)) ?_⟩
    rintro _ N ⟨rfl, hN⟩
    have hgN : s_ok (vE N 1) := ev_ok (evs_symm (evq_evs hN.2.2 (fun p hp => by
      rw [(hN.2.2.2.2.2.1 p hp).1]
      exact (h9.2.2.1 p hp).1.2))) h9
    exact L_backX N hgN (fun k hk => by rw [hN.2.1 (68 + 2 * k) (by omega)]; exact hS k hk) (fun K a1 a2 a3 => Or.inr ⟨h1, rfl, N, hN, a1, a2, a3⟩) 8 0 N (by omega) (fun _ _ => rfl) rfl (fun s hs => by rw [if_neg (by omega)])
  · refine ⟨2, 0, by first | decide | omega, by first | decide | omega, en_Ct_eq (R_refX (-5) (by omega) M) ?_⟩
    exact Or.inl ⟨by omega, rfl, rfl⟩
theorem R_backM (M : Mm) (h24 : M.1 84 24 = 0 ∨ s_num (vM M 158)) (hS : ∀ k : Nat, k < 8 → (0 ≤ M.1 85 k ∧ M.1 85 k ≤ 2) ∧ (M.1 85 k = 2 → 0 ≤ M.1 98 k ∧ M.1 98 k ≤ 100)) : en_Ct 9 0 241 [.inr (.inr (1, 6, 84))] M (fun r M' => (M.1 84 24 = 0 ∧ r = some (.inl (-5)) ∧ M' = rfM M 3) ∨ (M.1 84 24 ≠ 0 ∧ r = some (.inl 1) ∧ ∃ N : Mm, cpdM M N 84 158 ∧ (∀ a, a ≠ 85 → M'.1 a = N.1 a) ∧ M'.2 = N.2 ∧ ∀ s, s < 8 → M'.1 85 s = bkM N s)) := by
  refine ct_241 rfl ?_
  refine aw_241_0 ?_
  refine ⟨rfl, fun qn1 => ?_, fun qn1 => ?_⟩
  · refine ⟨1, 0, by first | decide | omega, by first | decide | omega, en_Ct_eq (R_refM (-5) (by omega) M) ?_⟩
    exact Or.inl ⟨‹_›, rfl, rfl⟩
  · have h0 : M.1 84 24 ≠ 0 := ‹_›
    have hn : s_num (vM M 158) := h24.resolve_left h0
    refine aw_241_14 ?_
    refine ⟨rfl, fun z => absurd z h0, fun _ => ?_⟩
    refine ⟨3, 0, by first | decide | omega, by first | decide | omega, en_Ct_mono (R_take_84_158 M) ?_⟩
    rintro _ N ⟨rfl, hN⟩
    have hw : N.1 84 10 = M.1 158 10 := hN.2.2.2.1 1 (by decide)
    exact L_backM N (by rw [hw]; exact hn.2.1) (fun k hk => by rw [hN.2.1 85 (by decide) (by decide), hN.2.1 98 (by decide) (by decide)]; exact hS k hk) (fun K a1 a2 a3 => Or.inr ⟨h0, rfl, N, hN, a1, a2, a3⟩) 8 0 N (by omega) (fun _ _ => rfl) rfl (fun s => by rw [if_neg (by omega)])
theorem S_back : sameC 117 241 [] := by
  intro M hc
  obtain ⟨⟨c1, c2⟩, c3, c4, c5, c6⟩ := id hc
  have hSX : ∀ k : Nat, k < 8 → (-1 ≤ M.1 (68 + 2 * k) 0 ∧ M.1 (68 + 2 * k) 0 ≤ 10) ∧ (M.1 (68 + 2 * k) 0 = 10 → 0 ≤ M.1 (68 + 2 * k) 2 ∧ M.1 (68 + 2 * k) 2 ≤ 100) := fun k hk => ⟨sh_X c6 hk, fun z => by
    have h1 := sh_X4 c6 hk z
    have h2 : M.1 1 1 ≤ 24 := c1.1.2.1.2
    omega⟩
  have hSM : ∀ k : Nat, k < 8 → (0 ≤ M.1 85 k ∧ M.1 85 k ≤ 2) ∧ (M.1 85 k = 2 → 0 ≤ M.1 98 k ∧ M.1 98 k ≤ 100) := fun k hk => ⟨sh_Mo c6 hk, fun z => by
    have h2 : M.1 1 1 ≤ 24 := c1.1.2.1.2
    rcases c6 k hk with y | y | y
    · omega
    · have := y.1
      omega
    · obtain ⟨y1, y2, y3, y4, y5⟩ := y
      omega⟩
  have h09 : M.1 0 9 = 0 ∨ (M.1 0 9 = 1 ∧ s_ok (vE M 17)) := by
    rcases c3 with z | z
    · exact Or.inl z.1
    · exact Or.inr ⟨z.1, z.2.2.1⟩
  refine ⟨9, by decide, en_Ct_mono (R_backX M h09 hSX) ?_⟩
  rintro r M1 (⟨h0, rfl, rfl⟩ | ⟨h1, rfl, N, hN, a1, a2, a3⟩)
  · have h24 : M.1 84 24 = 0 := by
      rcases c3 with z | z
      · exact z.2
      · omega
    have e84 : ∀ a, 84 ≤ a → (rfX M 3).1 a = M.1 a := fun a ha => by simp only [rfX, en_wI]; rw [if_neg (by omega)]
    refine ⟨_, rfl, 9, 0, by decide, Nat.zero_le _, en_Ct_mono (R_backM (rfX M 3) (Or.inl (by rw [e84 84 (by decide)]; exact h24)) (by rw [e84 85 (by decide), e84 98 (by decide)]; exact hSM)) ?_⟩
    rintro r M2 (⟨-, rfl, rfl⟩ | ⟨z, -⟩)
    · refine ⟨rfl, cpl_rf hc (by decide), ?_⟩
      rw [bl_eq (M := M) (fun i hi => by simp [rfM, rfX, en_wI])]
      omega
    · rw [e84 84 (by decide)] at z
      exact absurd h24 z
  · obtain ⟨z1, z2, z3, z4⟩ : M.1 0 9 = 1 ∧ M.1 84 24 ≠ 0 ∧ s_ok (vE M 17) ∧ evs (vE M 17) (vM M 158) := by
      rcases c3 with z | z
      · omega
      · exact z
    have e84 : ∀ a, 84 ≤ a → M1.1 a = M.1 a := fun a ha => by rw [a1 a (by omega), hN.2.1 a (by omega)]
    have g158 := ev_ok z4 z3
    have v158 : evs (vM M1 158) (vM M 158) := vM_fr (fun i _ => by rw [e84 158 (by decide)]) (fun a h0 h1 => e84 a (by omega))
    refine ⟨_, rfl, 9, 0, by decide, Nat.zero_le _, en_Ct_mono (R_backM M1 (Or.inr (ev_ok (evs_symm v158) g158).1) (by rw [e84 85 (by decide), e84 98 (by decide)]; exact hSM)) ?_⟩
    rintro r M2 (⟨z, -⟩ | ⟨-, rfl, N2, hN2, b1, b2, b3⟩)
    · rw [e84 84 (by decide)] at z
      exact absurd z z2
    have m2 : ∀ a, a ≠ 85 → a ≠ 84 → (a < 101 ∨ 116 ≤ a) → M2.1 a = M1.1 a := fun a h0 h1 h2 => by rw [b1 a h0, hN2.2.1 a h1 (by omega)]
    have m84 : ∀ i, i ≠ 9 → i ≠ 10 → i ≠ 18 → i ≠ 23 → M2.1 84 i = M.1 84 i := fun i h0 h1 h2 h3 => by rw [b1 84 (by decide), hN2.2.2.1 i h0 h1 h2 h3, e84 84 (by decide)]
    have q5 : ∀ p, p < 4 → (vE N 1).1 14 p ≤ 5 := fun p hp => by
      rw [(hN.2.2.2.2.2.1 p hp).1]
      exact (z3.2.2.1 p hp).1.2
    have eN : evs (vE N 1) (vE M 17) := evq_evs hN.2.2 q5
    have eM2 : evs (vE M2 1) (vE N 1) := vE_fr (fun a h0 h1 => by rw [m2 a (by omega) (by omega) (by omega), a1 a (by omega)])
    have eR : evs (vM M2 84) (vM N2 84) := vM_fr (fun i hi => by rw [b1 84 (by decide)]) (fun a h0 h1 => b1 a (by omega))
    have eN2 : evs (vM N2 84) (vM M1 158) := evq_evs hN2.2.2.2 (fun p hp => by
      rw [(hN2.2.2.2.2.2.2.1 p hp).1]
      exact ((ev_ok (evs_symm v158) g158).2.2.1 p hp).1.2)
    have eAll : evs (vE M2 1) (vM M2 84) := evs_tr eM2 (evs_tr eN (evs_tr z4 (evs_tr (evs_symm v158) (evs_tr (evs_symm eN2) (evs_symm eR)))))
    have hgM2 : s_ok (vE M2 1) := ev_ok (evs_symm (evs_tr eM2 eN)) z3
    have eW : M2.1 1 1 = N.1 1 1 := eM2.1 1 (by decide)
    have eW2 : N2.1 84 10 = N.1 1 1 := by
      have h1 : M2.1 84 10 = N2.1 84 10 := by rw [b1 84 (by decide)]
      have h2 : (vE M2 1).1 0 1 = (vM M2 84).1 0 1 := eAll.1 1 (by decide)
      have h3 : M2.1 1 1 = M2.1 84 10 := h2
      omega
    refine ⟨rfl, ⟨⟨hgM2, eAll⟩, ?_, ?_, ?_, ?_⟩, ?_⟩
    · have k0 : M2.1 0 9 = M.1 0 9 := by rw [m2 0 (by decide) (by decide) (by decide), a1 0 (by decide), hN.2.1 0 (by decide)]
      have k17 : evs (vE M2 17) (vE M 17) := vE_fr (fun a h0 h1 => by rw [m2 a (by omega) (by omega) (by omega), a1 a (by omega), hN.2.1 a (by omega)])
      have k158 : evs (vM M2 158) (vM M 158) := vM_fr (fun i _ => by rw [m2 158 (by decide) (by decide) (by decide), e84 158 (by decide)]) (fun a h0 h1 => by rw [m2 a (by omega) (by omega) (by omega), e84 a (by omega)])
      exact Or.inr ⟨by rw [k0]; exact z1, by rw [m84 24 (by decide) (by decide) (by decide) (by decide)]; exact z2, ev_ok (evs_symm k17) z3, evs_tr k17 (evs_tr z4 (evs_symm k158))⟩
    · unfold cT at c4 ⊢
      have k : ∀ a, 61 ≤ a → a < 68 → M2.1 a = M.1 a := fun a h0 h1 => by rw [m2 a (by omega) (by omega) (by omega), a1 a (by omega), hN.2.1 a (by omega)]
      rw [k 61 (by decide) (by decide), k 62 (by decide) (by decide), m84 7 (by decide) (by decide) (by decide) (by decide), m2 99 (by decide) (by decide) (by decide), e84 99 (by decide)]
      exact c4
    · unfold cR at c5 ⊢
      rw [m2 66 (by decide) (by decide) (by decide), a1 66 (by decide), hN.2.1 66 (by decide), m2 100 (by decide) (by decide) (by decide), e84 100 (by decide)]
      exact c5
    · intro s hs
      have hX : M2.1 (68 + 2 * s) = bkX N s := by rw [m2 _ (by omega) (by omega) (by omega), a3 s hs]
      have h85 : M2.1 85 s = bkM N2 s := b3 s hs
      have n85 : N2.1 85 s = M.1 85 s := by rw [hN2.2.1 85 (by decide) (by decide), e84 85 (by decide)]
      have n98 : N2.1 98 s = M.1 98 s := by rw [hN2.2.1 98 (by decide) (by decide), e84 98 (by decide)]
      have nX : N.1 (68 + 2 * s) = M.1 (68 + 2 * s) := hN.2.1 _ (by omega)
      have k86 : M2.1 86 s = M.1 86 s := by rw [m2 86 (by decide) (by decide) (by decide), e84 86 (by decide)]
      have k87 : M2.1 87 s = M.1 87 s := by rw [m2 87 (by decide) (by decide) (by decide), e84 87 (by decide)]
      have k98 : M2.1 98 s = M.1 98 s := by rw [m2 98 (by decide) (by decide) (by decide), e84 98 (by decide)]
      have kL : M2.2 = M.2 := by rw [b2, hN2.1, a2, hN.1]
      unfold cS1
      rw [hX, h85, k86, k87, k98, kL]
      have hM := c6 s hs
      unfold bkX bkM
      rw [n85, n98, nX, eW2, eW]
      rcases hM with y | y | y
      · rw [if_neg (by omega), if_neg (by omega)]
        exact Or.inl y
      · have y2 := y.2.1
        have y1 := y.1
        rw [if_neg (by omega), if_neg (by omega)]
        exact Or.inr (Or.inl y)
      · obtain ⟨y1, y2, y3, y4, y5⟩ := y
        by_cases hw : M.1 (68 + 2 * s) 2 < N.1 1 1
        · rw [if_neg (by omega), if_neg (by omega)]
          exact Or.inr (Or.inr ⟨y1, y2, y3, y4, hw⟩)
        · rw [if_pos (by omega), if_pos (by omega)]
          refine Or.inl ⟨rfl, ?_⟩
          simp [clS, en_wI]
    · rw [bl_eq (M := M) (fun i hi => m84 i (by omega) (by omega) (by omega) (by omega))]
      omega
