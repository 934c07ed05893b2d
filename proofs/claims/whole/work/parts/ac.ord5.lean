/-- two sorted lists with the same members -/
theorem srt_ext : ∀ (a b : List Nat), a.Pairwise (fun x y => x < y) → b.Pairwise (fun x y => x < y) → (∀ x, x ∈ a ↔ x ∈ b) → a = b
  | [], [], _, _, _ => rfl
  | [], y :: b, _, _, h => absurd ((h y).mpr (List.mem_cons_self ..)) List.not_mem_nil
  | x :: a, [], _, _, h => absurd ((h x).mp (List.mem_cons_self ..)) List.not_mem_nil
  | x :: a, y :: b, ha, hb, h => by
    obtain ⟨ha1, ha2⟩ := List.pairwise_cons.mp ha
    obtain ⟨hb1, hb2⟩ := List.pairwise_cons.mp hb
    have e : x = y := by
      rcases List.mem_cons.mp ((h x).mp (List.mem_cons_self ..)) with z | z
      · exact z
      · rcases List.mem_cons.mp ((h y).mpr (List.mem_cons_self ..)) with z2 | z2
        · exact z2.symm
        · have := hb1 x z
          have := ha1 y z2
          omega
    subst e
    refine congrArg (x :: ·) (srt_ext a b ha2 hb2 (fun v => ?_))
    constructor
    · intro hv
      rcases List.mem_cons.mp ((h v).mp (List.mem_cons_of_mem _ hv)) with z | z
      · have := ha1 v hv; omega
      · exact z
    · intro hv
      rcases List.mem_cons.mp ((h v).mpr (List.mem_cons_of_mem _ hv)) with z | z
      · have := hb1 v hv; omega
      · exact z
theorem srt_wl {E : Ev} (hg : s_ok E) {p : Nat} (hp : p < 4) {f : Nat → Int} (h1 : srt f (E.1 14 p).toNat) (h2 : sset f (E.2 p) (E.1 14 p).toNat) : ∀ j, j < (E.1 14 p).toNat → f j = ((gw E p j : Nat) : Int) := by
  have s1 := (hg.2.2.1 p hp)
  have hnn : ∀ j, j < (E.1 14 p).toNat → 0 ≤ f j := fun j hj => by
    obtain ⟨i, hi, e⟩ := (h2 (f j)).mp ⟨j, hj, rfl⟩
    have := s1.2 i (by omega)
    omega
  have e : (List.range (E.1 14 p).toNat).map (fun i => (f i).toNat) = wl E p := by
    refine srt_ext _ _ (List.pairwise_map.mpr (List.Pairwise.imp_of_mem (fun {a b} ha hb hab => ?_) List.pairwise_lt_range)) wl_srt (fun x => ?_)
    · have ha := List.mem_range.mp ha
      have hb := List.mem_range.mp hb
      have := h1 a b hab hb
      have := hnn a ha
      omega
    · rw [wl_mem hg hp]
      constructor
      · intro hx
        obtain ⟨j, hj, rfl⟩ := List.mem_map.mp hx
        obtain ⟨i, hi, e⟩ := (h2 (f j)).mp ⟨j, List.mem_range.mp hj, rfl⟩
        rw [← e]
        unfold s_shl
        refine List.mem_of_getElem? (i := i) ?_
        rw [shl_get _ _ _ _ hi, Nat.zero_add]
      · intro hx
        obtain ⟨i, -, hi, e⟩ := shl_at _ _ hx
        obtain ⟨j, hj, e2⟩ := (h2 (E.2 p i)).mpr ⟨i, by omega, rfl⟩
        exact List.mem_map.mpr ⟨j, List.mem_range.mpr hj, by show (f j).toNat = x; rw [e2]; exact e⟩
  intro j hj
  unfold gw
  rw [← e, List.getD_eq_getElem?_getD, List.getElem?_map, List.getElem?_range hj]
  have := hnn j hj
  show f j = (((f j).toNat : Nat) : Int)
  omega
