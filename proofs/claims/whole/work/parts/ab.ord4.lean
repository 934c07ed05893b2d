theorem ok_pm {E : Ev} (hg : s_ok E) {p : Nat} (hp : p < 4) {l : List Nat} (h : prm E p l) : s_ok (shE E p l) := by
  have hg' := hg
  obtain ⟨g1, g2, g3, g4, g5⟩ := hg
  have e14 : ∀ q, (shE E p l).1 14 q = if q = p then (l.length : Int) else E.1 14 q := fun q => rfl
  have e2 : ∀ q i, (shE E p l).2 q i = if q = p then (if i < l.length then ((l.getD i 0 : Nat) : Int) else E.2 p i) else E.2 q i := fun q i => by
    show (if q = p then (fun i => if i < l.length then ((l.getD i 0 : Nat) : Int) else E.2 p i) else E.2 q) i = _
    by_cases h' : q = p
    · rw [if_pos h', if_pos h']
    · rw [if_neg h', if_neg h']
  have s1 := (g3 p hp).1
  have hl := h.1
  have hw : ∀ i, i < l.length → ((l.getD i 0 : Nat) : Int) < E.1 0 1 := fun i hi => shl_w hg' hp _ (h.2.2 _ (getD_mem hi))
  refine ⟨g1, g2, fun q hq => ?_, fun q hq a b hab hb => ?_, g5⟩
  · unfold s_sh
    rw [e14]
    by_cases h' : q = p
    · rw [if_pos h']
      refine ⟨by omega, fun i hi => ?_⟩
      rw [e2, if_pos h', if_pos (by omega)]
      exact ⟨by omega, hw i (by omega)⟩
    · rw [if_neg h']
      refine ⟨(g3 q hq).1, fun i hi => ?_⟩
      rw [e2, if_neg h']
      exact (g3 q hq).2 i hi
  · rw [e14] at hb
    rw [e2, e2]
    by_cases h' : q = p
    · rw [if_pos h'] at hb
      rw [if_pos h', if_pos h', if_pos (by omega), if_pos (by omega), Int.toNat_natCast, Int.toNat_natCast]
      show E.1 4 _ ≠ E.1 4 _
      obtain ⟨i, -, hi, ei⟩ := shl_at _ _ (h.2.2 _ (getD_mem (show a < l.length by omega)))
      obtain ⟨j, -, hj, ej⟩ := shl_at _ _ (h.2.2 _ (getD_mem (show b < l.length by omega)))
      have hne : l.getD a 0 ≠ l.getD b 0 := by
        have := List.pairwise_iff_getElem.mp h.2.1 a b (by omega) (by omega) hab
        rw [List.getD_eq_getElem?_getD, List.getD_eq_getElem?_getD, List.getElem?_eq_getElem (show b < l.length by omega), List.getElem?_eq_getElem (show a < l.length by omega)]
        exact this
      rw [← ei, ← ej] at hne ⊢
      rcases Nat.lt_trichotomy i j with z | z | z
      · exact g4 p hp i j z (by omega)
      · rw [z] at hne; exact absurd rfl hne
      · exact fun q => g4 p hp j i z (by omega) q.symm
    · rw [if_neg h'] at hb
      rw [if_neg h', if_neg h']
      exact g4 q hq a b hab hb
theorem pm_prm {E : Ev} (hg : s_ok E) {p : Nat} (hp : p < 4) {l : List Nat} (h : l ∈ pmw (E.1 14 p).toNat (wl E p)) : prm E p l := by
  rw [pm_map hg hp] at h
  obtain ⟨L, hL, rfl⟩ := List.mem_map.mp h
  have s1 := (hg.2.2.1 p hp).1
  obtain ⟨r, -, -, -, h4⟩ := chk_i (m := (E.1 14 p).toNat) (by omega)
  have h5 := h4 L hL
  exact prm_g hg hp h5
theorem ev_shE {E F : Ev} (h : evs E F) {p : Nat} {l : List Nat} : evs (shE E p l) (shE F p l) := ev_sh h (fun _ _ => rfl)
theorem ev_bo {E F : Ev} (h : evs E F) (hg : s_ok E) {p : Nat} (hp : p < 4) : bo E p = bo F p := by
  have e1 : wl E p = wl F p := by
    unfold wl
    rw [h.1 1 (by decide), ev_shl h hg hp]
  have key : ∀ (X : List (List Nat)) (s : Int × List Nat), (∀ l ∈ X, prm E p l) → X.foldl (stO E p) s = X.foldl (stO F p) s := by
    intro X
    induction X with
    | nil => intro s _; rw [List.foldl_nil, List.foldl_nil]
    | cons x r ih =>
      intro s hx
      have e : stO E p s x = stO F p s x := by
        have e2 : pts (shE E p x) p (-1) = pts (shE F p x) p (-1) := ev_pts (ev_shE h) (ok_pm hg hp (hx x (List.mem_cons_self ..))) hp
        unfold stO
        rw [e2]
      rw [List.foldl_cons, List.foldl_cons, e]
      exact ih _ (fun y hy => hx y (List.mem_cons_of_mem _ hy))
  unfold bo
  rw [← (h.2.2.2.1 p hp).1, ← e1]
  exact key _ _ (fun l hl => pm_prm hg hp hl)
theorem sh_sh {E : Ev} {p : Nat} {l l' : List Nat} (h : l.length = l'.length) : shE (shE E p l) p l' = shE E p l' := by
  unfold shE u_sh
  refine Prod.ext (funext fun r => ?_) (funext fun q => ?_)
  · by_cases h1 : r = 14
    · simp only [h1, if_true]
      funext j
      by_cases h2 : j = p
      · simp only [h2, if_true]
      · simp only [if_neg h2]
    · simp only [if_neg h1]
  · by_cases h1 : q = p
    · subst h1
      simp only [if_true]
      funext i
      by_cases h2 : i < l'.length
      · simp only [if_pos h2]
      · simp only [if_neg h2, if_neg (show ¬ i < l.length by omega)]
    · simp only [if_neg h1]
