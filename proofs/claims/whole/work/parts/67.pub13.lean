theorem L_again1X {post : Option AV → Mm → Prop} (M : Mm) (v : Int) (W : Nat) (hW : M.1 1 1 = ((W : Nat) : Int)) (hW4 : W ≤ 24) (hx : en_AW 9 0 114 post 37 [some (.inr (.inr (1, 5, 0))), some (.inl v), none] [] (pr M 9 z0 W) 0) : ∀ (n : Nat) (i : Nat), (i + n = W) → en_AW 9 0 114 post 10 [some (.inr (.inr (1, 5, 0))), some (.inl v), some (.inl ((i : Nat) : Int))] [] (pr M 9 z0 i) 0 := by
  intro n
  induction n with
  | zero =>
    intro i hi
    have p1 : (pr M 9 z0 i).1 1 1 = ((W : Nat) : Int) := by rw [pr_ne (by decide)]; exact hW
    refine aw_114_10 ?_
    refine br_ge_y (a := ((i : Nat) : Int)) (b := (pr M 9 z0 i).1 1 1) (by omega) (by omega) (by omega) ?_
    refine en_AW_drop [true, true, false] ?_
    rw [show i = W by omega]
    exact hx
  | succ n ih =>
    intro i hi
    have p1 : (pr M 9 z0 i).1 1 1 = ((W : Nat) : Int) := by rw [pr_ne (by decide)]; exact hW
    refine aw_114_10 ?_
    refine br_ge_n (a := ((i : Nat) : Int)) (b := (pr M 9 z0 i).1 1 1) (by omega) (by omega) (by omega) ?_
    refine ⟨Or.inl rfl, ?_⟩
    refine ⟨i, rfl, (show i < 24 by omega), ?_⟩
    refine en_AW_M (show en_wI (pr M 9 z0 i) 9 i 0 = pr M 9 z0 (i + 1) from pr_step rfl) ?_
    exact ih (i + 1) (by omega)
theorem L_again2X {post : Option AV → Mm → Prop} (M : Mm) (v : Int) (P : Nat) (hP : M.1 1 2 = ((P : Nat) : Int)) (hP4 : P ≤ 4) (hq : post (some (.inl v)) (pr (pr M 16 z0 P) 15 z0 P)) : ∀ (n : Nat) (i : Nat), (i + n = P) → en_AW 9 0 114 post 39 [some (.inr (.inr (1, 5, 0))), some (.inl v), some (.inl ((i : Nat) : Int))] [] (pr (pr M 16 z0 i) 15 z0 i) 0 := by
  intro n
  induction n with
  | zero =>
    intro i hi
    have p1 : (pr (pr M 16 z0 i) 15 z0 i).1 1 2 = ((P : Nat) : Int) := by rw [pr_ne (by decide), pr_ne (by decide)]; exact hP
    refine aw_114_39 ?_
    refine br_ge_y (a := ((i : Nat) : Int)) (b := (pr (pr M 16 z0 i) 15 z0 i).1 1 2) (by omega) (by omega) (by omega) ?_
    refine aw_114_76 ?_
    rw [show i = P by omega]
    exact hq
  | succ n ih =>
    intro i hi
    have p1 : (pr (pr M 16 z0 i) 15 z0 i).1 1 2 = ((P : Nat) : Int) := by rw [pr_ne (by decide), pr_ne (by decide)]; exact hP
    have p2 : ∀ a c w, (en_wI (pr (pr M 16 z0 i) 15 z0 i) a c w).1 1 = (pr (pr M 16 z0 i) 15 z0 i).1 1 ∨ a = 1 := fun a c w => by
      by_cases h : a = 1
      · exact Or.inr h
      · exact Or.inl (wI_ne (fun z => h z.symm))
    refine aw_114_39 ?_
    refine br_ge_n (a := ((i : Nat) : Int)) (b := (pr (pr M 16 z0 i) 15 z0 i).1 1 2) (by omega) (by omega) (by omega) ?_
    refine ⟨i, rfl, (show i < 4 by omega), ?_⟩
    refine ⟨i, rfl, (show i < 4 by omega), ?_⟩
    refine en_AW_M (show en_wI (en_wI (pr (pr M 16 z0 i) 15 z0 i) 16 i 0) 15 i 0 = pr (pr M 16 z0 (i + 1)) 15 z0 (i + 1) from by rw [pr_comm (by decide), pr_step (by rfl), pr_step (by rfl)]) ?_
    exact ih (i + 1) (by omega)
theorem L_again1M {post : Option AV → Mm → Prop} (M : Mm) (v : Int) (W : Nat) (hW : M.1 84 10 = ((W : Nat) : Int)) (hW4 : W ≤ 24) (hx : en_AW 9 0 235 post 28 [some (.inr (.inr (1, 6, 84))), some (.inl v), none] [] (pr M 107 z0 W) 0) : ∀ (n : Nat) (i : Nat), (i + n = W) → en_AW 9 0 235 post 7 [some (.inr (.inr (1, 6, 84))), some (.inl v), some (.inl ((i : Nat) : Int))] [] (pr M 107 z0 i) 0 := by
  intro n
  induction n with
  | zero =>
    intro i hi
    have p1 : (pr M 107 z0 i).1 84 10 = ((W : Nat) : Int) := by rw [pr_ne (by decide)]; exact hW
    refine aw_235_7 ?_
    refine br_ge_y (a := ((i : Nat) : Int)) (b := (pr M 107 z0 i).1 84 10) (by omega) (by omega) (by omega) ?_
    refine en_AW_drop [true, true, false] ?_
    rw [show i = W by omega]
    exact hx
  | succ n ih =>
    intro i hi
    have p1 : (pr M 107 z0 i).1 84 10 = ((W : Nat) : Int) := by rw [pr_ne (by decide)]; exact hW
    refine aw_235_7 ?_
    refine br_ge_n (a := ((i : Nat) : Int)) (b := (pr M 107 z0 i).1 84 10) (by omega) (by omega) (by omega) ?_
    refine ⟨i, rfl, (show i < 24 by omega), ?_⟩
    refine en_AW_M (show en_wI (pr M 107 z0 i) 107 i 0 = pr M 107 z0 (i + 1) from pr_step rfl) ?_
    exact ih (i + 1) (by omega)
theorem L_again2M {post : Option AV → Mm → Prop} (M : Mm) (v : Int) (P : Nat) (hP : M.1 84 18 = ((P : Nat) : Int)) (hP4 : P ≤ 4) (hq : post (some (.inl v)) (pr (pr M 114 z0 P) 113 z0 P)) : ∀ (n : Nat) (i : Nat), (i + n = P) → en_AW 9 0 235 post 30 [some (.inr (.inr (1, 6, 84))), some (.inl v), some (.inl ((i : Nat) : Int))] [] (pr (pr M 114 z0 i) 113 z0 i) 0 := by
  intro n
  induction n with
  | zero =>
    intro i hi
    have p1 : (pr (pr M 114 z0 i) 113 z0 i).1 84 18 = ((P : Nat) : Int) := by rw [pr_ne (by decide), pr_ne (by decide)]; exact hP
    refine aw_235_30 ?_
    refine br_ge_y (a := ((i : Nat) : Int)) (b := (pr (pr M 114 z0 i) 113 z0 i).1 84 18) (by omega) (by omega) (by omega) ?_
    refine aw_235_58 ?_
    rw [show i = P by omega]
    exact hq
  | succ n ih =>
    intro i hi
    have p1 : (pr (pr M 114 z0 i) 113 z0 i).1 84 18 = ((P : Nat) : Int) := by rw [pr_ne (by decide), pr_ne (by decide)]; exact hP
    have p2 : ∀ a c w, (en_wI (pr (pr M 114 z0 i) 113 z0 i) a c w).1 84 = (pr (pr M 114 z0 i) 113 z0 i).1 84 ∨ a = 84 := fun a c w => by
      by_cases h : a = 84
      · exact Or.inr h
      · exact Or.inl (wI_ne (fun z => h z.symm))
    refine aw_235_30 ?_
    refine br_ge_n (a := ((i : Nat) : Int)) (b := (pr (pr M 114 z0 i) 113 z0 i).1 84 18) (by omega) (by omega) (by omega) ?_
    refine ⟨i, rfl, (show i < 4 by omega), ?_⟩
    refine ⟨i, rfl, (show i < 4 by omega), ?_⟩
    refine en_AW_M (show en_wI (en_wI (pr (pr M 114 z0 i) 113 z0 i) 114 i 0) 113 i 0 = pr (pr M 114 z0 (i + 1)) 113 z0 (i + 1) from by rw [pr_comm (by decide), pr_step (by rfl), pr_step (by rfl)]) ?_
    exact ih (i + 1) (by omega)
