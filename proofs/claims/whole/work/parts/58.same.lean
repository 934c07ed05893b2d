/-- blocks that may still be made -/
def bl (M : Mm) : Nat := (if M.1 84 25 = 0 then 1 else 0) + (if M.1 84 24 = 0 then 1 else 0)
/-- both sides answer alike, and go on alike -/
def sameC (kx km : Nat) (as : List AV) : Prop := ∀ M, cpl M → ∃ hx, hx < 60 ∧ en_Ct hx 0 kx (.inr (.inr (1, 5, 0)) :: as) M (fun r M1 => ∃ x : Int, r = some (.inl x) ∧ ∃ hm bm, hm < 60 ∧ bm ≤ bl M ∧ en_Ct hm bm km (.inr (.inr (1, 6, 84)) :: as) M1 (fun r2 M2 => r2 = some (.inl x) ∧ cpl M2 ∧ bm + bl M2 ≤ bl M))
/-- the same, of a call that answers a long -/
def sameL (kx km : Nat) (as : List AV) : Prop := ∀ M, cpl M → ∃ hx, hx < 60 ∧ en_Ct hx 0 kx (.inr (.inr (1, 5, 0)) :: as) M (fun r M1 => ∃ x : Int, r = some (.inr (.inl x)) ∧ ∃ hm bm, hm < 60 ∧ bm ≤ bl M ∧ en_Ct hm bm km (.inr (.inr (1, 6, 84)) :: as) M1 (fun r2 M2 => r2 = some (.inr (.inl x)) ∧ cpl M2 ∧ bm + bl M2 ≤ bl M))
theorem sX_rfM {A B : Mm} {k : Nat} (h : sX A B) : sX (rfM A k) (rfM B k) := by
  refine ⟨fun a ha => ?_, ?_, h.2.2⟩
  · by_cases h1 : a = 100
    · subst h1
      have := h.1 100 (by omega)
      simp [rfM, en_wI, this]
    · simp only [rfM, en_wI, if_neg h1]
      exact h.1 a ha
  · simp only [rfM, en_wI]
    exact h.2.1
theorem bl_eq {M M1 : Mm} (h : ∀ i, i = 24 ∨ i = 25 → M1.1 84 i = M.1 84 i) : bl M1 = bl M := by unfold bl; rw [h 24 (by omega), h 25 (by omega)]
theorem isM_x {M M1 : Mm} {F : Ev} (h : isM M 84 F) (hs : ∀ a, 84 ≤ a → M1.1 a = M.1 a) : isM M1 84 F := isM_fr h (fun i _ => by rw [hs 84 (by omega)]) (fun a z0 _ => hs a (by omega))
theorem aX_84 {M : Mm} {k : Nat} : ∀ a, 84 ≤ a → (aX M k).1 a = M.1 a := by
  intro a ha
  cases k with
  | zero => rfl
  | succ k => simp only [aX, rfX, en_wI, if_neg (show ¬ a = 66 by omega)]
theorem same_ro {kx km hx hm : Nat} {as : List AV} {f : Ev → Nat × Int} (h60 : hx < 60) (g60 : hm < 60)
    (hX : ∀ E M, isE M 1 E → s_ok E → en_Ct hx 0 kx (.inr (.inr (1, 5, 0)) :: as) M (fun r M' => r = some (.inl (f E).2) ∧ sX (aX M (f E).1) M'))
    (hM : ∀ E M, isM M 84 E → s_ok E → en_Ct hm 0 km (.inr (.inr (1, 6, 84)) :: as) M (fun r M' => r = some (.inl (f E).2) ∧ sM (aM M (f E).1) M'))
    (hv : ∀ E F, evs E F → s_ok E → f E = f F) (hk : ∀ E, (f E).1 ≤ 5) : sameC kx km as := by
  intro M hc
  refine ⟨hx, h60, en_Ct_mono (hX (vE M 1) M isE_self hc.1.1) ?_⟩
  rintro r M1 ⟨rfl, hs⟩
  have e := hv _ _ hc.1.2 hc.1.1
  have hg := ev_ok hc.1.2 hc.1.1
  have h84 : ∀ a, 84 ≤ a → M1.1 a = M.1 a := fun a ha => (hs.1 a (by omega)).trans (aX_84 a ha)
  refine ⟨_, rfl, hm, 0, g60, Nat.zero_le _, en_Ct_mono (hM (vM M 84) M1 (isM_x isM_self h84) hg) ?_⟩
  rintro r M2 ⟨rfl, hs2⟩
  rw [← e] at hs2 ⊢
  have hb : bl M2 = bl M := bl_eq (fun i hi => by
    rw [hs2.2.1 i (by omega)]
    cases hq : (f (vE M 1)).1 with
    | zero => exact congrFun (h84 84 (by omega)) i
    | succ k =>
      show (rfM M1 k).1 84 i = _
      simp only [rfM, en_wI]
      exact congrFun (h84 84 (by omega)) i)
  refine ⟨rfl, ?_, by omega⟩
  cases hq : (f (vE M 1)).1 with
  | zero =>
    rw [hq] at hs hs2
    exact cpl_ro hc hs hs2
  | succ k =>
    rw [hq] at hs hs2
    have := hk (vE M 1)
    exact cpl_ro (cpl_rf hc (k := k) (by omega)) (sX_rfM hs) hs2
theorem S_call  : sameC 87 194 [] := same_ro (f := fun E => a_call E ) (by decide) (by decide) (fun E M h1 h2 => PX_call E M h1 h2  ) (fun E M h1 h2 => PM_call E M h1 h2  ) (fun E F h1 h2 => ea_call h1 h2) (fun E => by show (a_call E ).1 ≤ 5; unfold a_call; (repeat' split) <;> exact Nat.le_of_ble_eq_true rfl)
theorem S_caller  : sameC 88 195 [] := same_ro (f := fun E => a_caller E ) (by decide) (by decide) (fun E M h1 h2 => PX_caller E M h1 h2  ) (fun E M h1 h2 => PM_caller E M h1 h2  ) (fun E F h1 h2 => ea_caller h1 h2) (fun E => by show (a_caller E ).1 ≤ 5; unfold a_caller; (repeat' split) <;> exact Nat.le_of_ble_eq_true rfl)
theorem S_written {x : Int} (hx : -2147483648 ≤ x ∧ x < 2147483648) {s : Int} (hs : -2147483648 ≤ s ∧ s < 2147483648) : sameC 89 196 [.inl x, .inl s] := same_ro (f := fun E => a_written E x s) (by decide) (by decide) (fun E M h1 h2 => PX_written E M h1 h2 x s hx hs) (fun E M h1 h2 => PM_written E M h1 h2 x s hx hs) (fun E F h1 h2 => ea_written h1 h2) (fun E => by show (a_written E x s).1 ≤ 5; unfold a_written; (repeat' split) <;> exact Nat.le_of_ble_eq_true rfl)
theorem S_kept {x : Int} (hx : -2147483648 ≤ x ∧ x < 2147483648) : sameC 90 198 [.inl x] := same_ro (f := fun E => a_kept E x) (by decide) (by decide) (fun E M h1 h2 => PX_kept E M h1 h2 x hx) (fun E M h1 h2 => PM_kept E M h1 h2 x hx) (fun E F h1 h2 => ea_kept h1 h2) (fun E => by show (a_kept E x).1 ≤ 5; unfold a_kept; (repeat' split) <;> exact Nat.le_of_ble_eq_true rfl)
theorem S_points {x : Int} (hx : -2147483648 ≤ x ∧ x < 2147483648) {c : Int} (hc : -2147483648 ≤ c ∧ c < 2147483648) : sameC 91 204 [.inl x, .inl c] := same_ro (f := fun E => a_points E x c) (by decide) (by decide) (fun E M h1 h2 => PX_points E M h1 h2 x c hx hc) (fun E M h1 h2 => PM_points E M h1 h2 x c hx hc) (fun E F h1 h2 => ea_points h1 h2) (fun E => by show (a_points E x c).1 ≤ 5; unfold a_points; (repeat' split) <;> exact Nat.le_of_ble_eq_true rfl)
theorem S_winner  : sameC 92 206 [] := same_ro (f := fun E => a_winner E ) (by decide) (by decide) (fun E M h1 h2 => PX_winner E M h1 h2  ) (fun E M h1 h2 => PM_winner E M h1 h2  ) (fun E F h1 h2 => ea_winner h1 h2) (fun E => by show (a_winner E ).1 ≤ 5; unfold a_winner; (repeat' split) <;> exact Nat.le_of_ble_eq_true rfl)
theorem S_rival {x : Int} (hx : -2147483648 ≤ x ∧ x < 2147483648) : sameC 106 207 [.inl x] := same_ro (f := fun E => a_rival E x) (by decide) (by decide) (fun E M h1 h2 => PX_rival E M h1 h2 x hx) (fun E M h1 h2 => PM_rival E M h1 h2 x hx) (fun E F h1 h2 => ea_rival h1 h2) (fun E => by show (a_rival E x).1 ≤ 5; unfold a_rival; (repeat' split) <;> exact Nat.le_of_ble_eq_true rfl)
theorem S_score {x : Int} (hx : -2147483648 ≤ x ∧ x < 2147483648) : sameC 86 188 [.inl x] := same_ro (f := fun E => a_score E x) (by decide) (by decide) (fun E M h1 h2 => PX_score E M h1 h2 x hx) (fun E M h1 h2 => PM_score E M h1 h2 x hx) (fun E F h1 h2 => ea_score h1 h2) (fun E => by show (a_score E x).1 ≤ 5; unfold a_score; (repeat' split) <;> exact Nat.le_of_ble_eq_true rfl)
theorem S_sheetOf {x : Int} (hx : -2147483648 ≤ x ∧ x < 2147483648) {i : Int} (hi : -2147483648 ≤ i ∧ i < 2147483648) : sameC 85 187 [.inl x, .inl i] := same_ro (f := fun E => a_sheetOf E x i) (by decide) (by decide) (fun E M h1 h2 => PX_sheetOf E M h1 h2 x i hx hi) (fun E M h1 h2 => PM_sheetOf E M h1 h2 x i hx hi) (fun E F h1 h2 => ea_sheetOf h1 h2) (fun E => by show (a_sheetOf E x i).1 ≤ 5; unfold a_sheetOf; (repeat' split) <;> exact Nat.le_of_ble_eq_true rfl)
theorem S_wordOf {x : Int} (hx : -2147483648 ≤ x ∧ x < 2147483648) {t : Int} (ht : -2147483648 ≤ t ∧ t < 2147483648) : sameC 84 186 [.inl x, .inl t] := same_ro (f := fun E => a_wordOf E x t) (by decide) (by decide) (fun E M h1 h2 => PX_wordOf E M h1 h2 x t hx ht) (fun E M h1 h2 => PM_wordOf E M h1 h2 x t hx ht) (fun E F h1 h2 => ea_wordOf h1 h2) (fun E => by show (a_wordOf E x t).1 ≤ 5; unfold a_wordOf; (repeat' split) <;> exact Nat.le_of_ble_eq_true rfl)
theorem S_silent {l : Int} (hl : -2147483648 ≤ l ∧ l < 2147483648) {t : Int} (ht : -2147483648 ≤ t ∧ t < 2147483648) {s : Int} (hs : -2147483648 ≤ s ∧ s < 2147483648) : sameC 101 226 [.inl l, .inl t, .inl s] := same_ro (f := fun E => a_silent E l t s) (by decide) (by decide) (fun E M h1 h2 => PX_silent E M h1 h2 l t s hl ht hs) (fun E M h1 h2 => PM_silent E M h1 h2 l t s hl ht hs) (fun E F h1 h2 => ea_silent h1 h2) (fun E => by show (a_silent E l t s).1 ≤ 5; unfold a_silent; (repeat' split) <;> exact Nat.le_of_ble_eq_true rfl)
theorem S_keptBy {x : Int} (hx : -2147483648 ≤ x ∧ x < 2147483648) : sameC 105 208 [.inl x] := same_ro (f := fun E => a_keptBy E x) (by decide) (by decide) (fun E M h1 h2 => PX_keptBy E M h1 h2 x hx) (fun E M h1 h2 => PM_keptBy E M h1 h2 x hx) (fun E F h1 h2 => ea_keptBy h1 h2) (fun E => by show (a_keptBy E x).1 ≤ 5; unfold a_keptBy; (repeat' split) <;> exact Nat.le_of_ble_eq_true rfl)
theorem S_late {x : Int} (hx : -2147483648 ≤ x ∧ x < 2147483648) : sameC 108 211 [.inl x] := same_ro (f := fun E => a_late E x) (by decide) (by decide) (fun E M h1 h2 => PX_late E M h1 h2 x hx) (fun E M h1 h2 => PM_late E M h1 h2 x hx) (fun E F h1 h2 => ea_late h1 h2) (fun E => by show (a_late E x).1 ≤ 5; unfold a_late; (repeat' split) <;> exact Nat.le_of_ble_eq_true rfl)
theorem S_fills {x : Int} (hx : -2147483648 ≤ x ∧ x < 2147483648) {l : Int} (hl : -2147483648 ≤ l ∧ l < 2147483648) : sameC 99 224 [.inl x, .inl l] := same_ro (f := fun E => a_fills E x l) (by decide) (by decide) (fun E M h1 h2 => PX_fills E M h1 h2 x l hx hl) (fun E M h1 h2 => PM_fills E M h1 h2 x l hx hl) (fun E F h1 h2 => ea_fills h1 h2) (fun E => by show (a_fills E x l).1 ≤ 5; unfold a_fills; (repeat' split) <;> exact Nat.le_of_ble_eq_true rfl)
theorem S_lonely {l : Int} (hl : -2147483648 ≤ l ∧ l < 2147483648) : sameC 98 222 [.inl l] := same_ro (f := fun E => a_lonely E l) (by decide) (by decide) (fun E M h1 h2 => PX_lonely E M h1 h2 l hl) (fun E M h1 h2 => PM_lonely E M h1 h2 l hl) (fun E F h1 h2 => ea_lonely h1 h2) (fun E => by show (a_lonely E l).1 ≤ 5; unfold a_lonely; (repeat' split) <;> exact Nat.le_of_ble_eq_true rfl)
theorem S_gains {l : Int} (hl : -2147483648 ≤ l ∧ l < 2147483648) : sameC 100 225 [.inl l] := same_ro (f := fun E => a_gains E l) (by decide) (by decide) (fun E M h1 h2 => PX_gains E M h1 h2 l hl) (fun E M h1 h2 => PM_gains E M h1 h2 l hl) (fun E F h1 h2 => ea_gains h1 h2) (fun E => by show (a_gains E l).1 ≤ 5; unfold a_gains; (repeat' split) <;> exact Nat.le_of_ble_eq_true rfl)
theorem S_stop {l : Int} (hl : -2147483648 ≤ l ∧ l < 2147483648) {t : Int} (ht : -2147483648 ≤ t ∧ t < 2147483648) {x : Int} (hx : -2147483648 ≤ x ∧ x < 2147483648) : sameC 102 227 [.inl l, .inl t, .inl x] := same_ro (f := fun E => a_stop E l t x) (by decide) (by decide) (fun E M h1 h2 => PX_stop E M h1 h2 l t x hl ht hx) (fun E M h1 h2 => PM_stop E M h1 h2 l t x hl ht hx) (fun E F h1 h2 => ea_stop h1 h2) (fun E => by show (a_stop E l t x).1 ≤ 5; unfold a_stop; (repeat' split) <;> exact Nat.le_of_ble_eq_true rfl)
theorem S_empty  : sameC 110 210 [] := same_ro (f := fun E => a_empty E ) (by decide) (by decide) (fun E M h1 h2 => PX_empty E M h1 h2  ) (fun E M h1 h2 => PM_empty E M h1 h2  ) (fun E F h1 h2 => ea_empty h1 h2) (fun E => by show (a_empty E ).1 ≤ 5; unfold a_empty; (repeat' split) <;> exact Nat.le_of_ble_eq_true rfl)
theorem S_clashes  : sameC 109 209 [] := same_ro (f := fun E => a_clashes E ) (by decide) (by decide) (fun E M h1 h2 => PX_clashes E M h1 h2  ) (fun E M h1 h2 => PM_clashes E M h1 h2  ) (fun E F h1 h2 => ea_clashes h1 h2) (fun E => by show (a_clashes E ).1 ≤ 5; unfold a_clashes; (repeat' split) <;> exact Nat.le_of_ble_eq_true rfl)
