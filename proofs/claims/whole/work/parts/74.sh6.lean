/-- a call on one shelf: the frame of the proof -/
theorem same_sh {kx km hx hm : Nat} {as : List AV} {M : Mm} {k : Nat} {f : Nat × Int} {X Y : Mm → Mm} (hc : cpl M) (h60 : hx < 60) (g60 : hm < 60) (hk : f.1 = 0 → k < 8) (hf5 : f.1 ≤ 5)
    (hX : en_Ct hx 0 kx (.inr (.inr (1, 5, 0)) :: as) M (fun r M' => r = some (.inl f.2) ∧ ((f.1 ≠ 0 ∧ M' = aX M f.1) ∨ (f.1 = 0 ∧ M' = X M))))
    (hx1 : f.1 = 0 → ∀ a, a ≠ 68 + 2 * k → (X M).1 a = M.1 a) (hx2 : f.1 = 0 → ∀ a, a ≠ 68 + 2 * k + 1 → (X M).2 a = M.2 a)
    (hM : ∀ M1, (∀ a, 84 ≤ a → M1.1 a = M.1 a) → (∀ a, 84 ≤ a → M1.2 a = M.2 a) → en_Ct hm 0 km (.inr (.inr (1, 6, 84)) :: as) M1 (fun r M' => r = some (.inl f.2) ∧ ((f.1 ≠ 0 ∧ M' = aM M1 f.1) ∨ (f.1 = 0 ∧ M' = Y M1))))
    (hy1 : ∀ M1 a, a ≠ 85 → a ≠ 86 → a ≠ 87 → a ≠ 98 → (Y M1).1 a = M1.1 a) (hy3 : ∀ M1 a i, i ≠ k → (Y M1).1 a i = M1.1 a i) (hy2 : ∀ M1 a, a ≠ 89 + 1 * k → a < 97 → (Y M1).2 a = M1.2 a)
    (hS : f.1 = 0 → cS1 (Y (X M)) k) :
    ∃ hx, hx < 60 ∧ en_Ct hx 0 kx (.inr (.inr (1, 5, 0)) :: as) M (fun r M1 => ∃ x : Int, r = some (.inl x) ∧ ∃ hm bm, hm < 60 ∧ bm ≤ bl M ∧ en_Ct hm bm km (.inr (.inr (1, 6, 84)) :: as) M1 (fun r2 M2 => r2 = some (.inl x) ∧ cpl M2 ∧ bm + bl M2 ≤ bl M)) := by
  refine ⟨hx, h60, en_Ct_mono hX ?_⟩
  rintro r M1 ⟨rfl, hs⟩
  have h84 : ∀ a, 84 ≤ a → M1.1 a = M.1 a := by
    intro a ha
    rcases hs with ⟨-, rfl⟩ | ⟨h0, rfl⟩
    · exact aX_84 a ha
    · have := hk h0
      exact hx1 h0 a (by omega)
  have h84' : ∀ a, 84 ≤ a → M1.2 a = M.2 a := by
    intro a ha
    rcases hs with ⟨-, rfl⟩ | ⟨h0, rfl⟩
    · cases f.1 <;> rfl
    · have := hk h0
      exact hx2 h0 a (by omega)
  refine ⟨_, rfl, hm, 0, g60, Nat.zero_le _, en_Ct_mono (hM M1 h84 h84') ?_⟩
  rintro r M2 ⟨rfl, hm⟩
  refine ⟨rfl, ?_⟩
  rcases hs with ⟨h0, hs⟩ | ⟨h0, hs⟩
  · rcases hm with ⟨-, hm⟩ | ⟨z, -⟩
    · cases hq : f.1 with
      | zero => exact absurd hq h0
      | succ j =>
        rw [hq] at hs hm
        subst hs hm
        refine ⟨cpl_rf hc (by omega), ?_⟩
        rw [bl_eq (M := M) (fun i hi => by simp [aM, aX, rfM, rfX, en_wI])]
        omega
    · exact absurd z h0
  · rcases hm with ⟨z, -⟩ | ⟨-, hm⟩
    · exact absurd h0 z
    · have hk8 := hk h0
      subst hs hm
      refine ⟨cpl_S hc hk8 (fun a z1 z2 z3 z4 z5 => (hy1 _ a z2 z3 z4 z5).trans (hx1 h0 a z1)) (fun a i z1 z2 => (hy3 _ a i z2).trans (congrFun (hx1 h0 a (by omega)) i)) (fun a z1 z2 z3 => (hy2 _ a z2 (by omega)).trans (hx2 h0 a z1)) (hS h0), ?_⟩
      rw [bl_eq (M := M) (fun i hi => by rw [hy1 _ 84 (by decide) (by decide) (by decide) (by decide), hx1 h0 84 (by omega)])]
      omega
theorem S_row {s t n : Int} (hs : -2147483648 ≤ s ∧ s < 2147483648) (ht : -2147483648 ≤ t ∧ t < 2147483648) (hn : -2147483648 ≤ n ∧ n < 2147483648) : sameC 68 145 [.inl s, .inl t, .inl n] := by
  intro M hc
  have hcd : (a_row s t n).1 = 0 → (0 ≤ s ∧ s ≤ 7) ∧ (0 ≤ t ∧ t ≤ 4) ∧ 0 ≤ n ∧ n ≤ 40 := by
    intro h0
    unfold a_row at h0
    by_cases z : (0 ≤ s ∧ s ≤ 7) ∧ (0 ≤ t ∧ t ≤ 4) ∧ 0 ≤ n ∧ n ≤ 40
    · exact z
    · rw [if_neg z] at h0; cases h0
  refine same_sh (k := s.toNat) (f := a_row s t n) (X := fun M => brS M (68 + 2 * s.toNat) t n) (Y := fun M => brM M s.toNat t n) hc (by decide) (by decide) (fun h => by have := hcd h; omega) (by unfold a_row; split <;> decide) (R_rowX s t n hs ht hn M) (fun _ a ha => by simp [brS, prL, clS, en_wI, ha]) (fun _ a ha => by simp [brS, prL, clS, en_wI, ha]) (fun M1 _ _ => R_rowM s t n hs ht hn M1) (fun M1 a z1 z2 z3 z4 => by simp [brM, prL, en_wI, z1, z2, z3]) (fun M1 a i z => ?_) (fun M1 a z1 _ => by simp only [brM, prL]; rw [if_neg z1]; rfl) (fun h => ?_)
  · simp only [brM, prL, en_wI]
    by_cases z1 : a = 87
    · subst z1; simp [z]
    · by_cases z2 : a = 86
      · subst z2; simp [z]
      · by_cases z3 : a = 85
        · subst z3; simp [z]
        · simp [z1, z2, z3]
  · have hcd := hcd h
    have hk8 : s.toNat < 8 := by omega
    generalize s.toNat = k at *
    have e1 : ¬ 68 + 2 * k = 85 := by omega
    have e2 : ¬ 68 + 2 * k = 86 := by omega
    have e3 : ¬ 68 + 2 * k = 87 := by omega
    have e4 : ¬ 68 + 2 * k + 1 = 89 + k := by omega
    have c0 : (brM (brS M (68 + 2 * k) t n) k t n).1 (68 + 2 * k) 0 = t := by simp [brM, prL, en_wI, brS, clS, e1, e2, e3]
    have c1 : (brM (brS M (68 + 2 * k) t n) k t n).1 (68 + 2 * k) 1 = n := by simp [brM, prL, en_wI, brS, clS, e1, e2, e3]
    have b0 : (brM (brS M (68 + 2 * k) t n) k t n).1 85 k = 1 := by simp [brM, prL, en_wI]
    have b1 : (brM (brS M (68 + 2 * k) t n) k t n).1 86 k = t := by simp [brM, prL, en_wI]
    have b2 : (brM (brS M (68 + 2 * k) t n) k t n).1 87 k = n := by simp [brM, prL, en_wI]
    refine Or.inr (Or.inl ⟨b0, ?_, ?_, ?_, ?_, fun i hi => ?_⟩)
    · show 0 ≤ (brM (brS M (68 + 2 * k) t n) k t n).1 (68 + 2 * k) 0 ∧ (brM (brS M (68 + 2 * k) t n) k t n).1 (68 + 2 * k) 0 ≤ 4
      rw [c0]; omega
    · show (brM (brS M (68 + 2 * k) t n) k t n).1 86 k = (brM (brS M (68 + 2 * k) t n) k t n).1 (68 + 2 * k) 0
      rw [c0, b1]
    · show 0 ≤ (brM (brS M (68 + 2 * k) t n) k t n).1 (68 + 2 * k) 1 ∧ (brM (brS M (68 + 2 * k) t n) k t n).1 (68 + 2 * k) 1 ≤ 40
      rw [c1]; omega
    · show (brM (brS M (68 + 2 * k) t n) k t n).1 87 k = (brM (brS M (68 + 2 * k) t n) k t n).1 (68 + 2 * k) 1
      rw [c1, b2]
    · have d1 : (brM (brS M (68 + 2 * k) t n) k t n).2 (68 + 2 * k + 1) i = 0 := by simp [brM, prL, en_wI, brS, clS, e4, hi, z0]
      have d2 : (brM (brS M (68 + 2 * k) t n) k t n).2 (89 + 1 * k) i = 0 := by simp [brM, prL, hi, z0]
      show (brM (brS M (68 + 2 * k) t n) k t n).2 (68 + 2 * k + 1) i = (brM (brS M (68 + 2 * k) t n) k t n).2 (89 + 1 * k) i ∧ -9223372036854775808 ≤ (brM (brS M (68 + 2 * k) t n) k t n).2 (68 + 2 * k + 1) i ∧ (brM (brS M (68 + 2 * k) t n) k t n).2 (68 + 2 * k + 1) i < 9223372036854775808
      rw [d1, d2]
      decide
