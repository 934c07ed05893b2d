/-! rows on the world: places, writing, values -/
theorem en_if_t {b : Bool} {P : Prop} (h : en_if b P) : b = true ∧ P := by
  cases b with
  | true => exact ⟨rfl, h⟩
  | false => exact h.elim
theorem en_nodup (M : Mm) : (en_pl M).Nodup := by
  unfold en_pl
  by_cases h1 : M.1 84 25 = 0 <;> by_cases h2 : M.1 84 24 = 0 <;> simp only [h1, h2, if_true, if_false] <;> decide +kernel
theorem en_pl_lt {M : Mm} {a : Nat} (h : a ∈ en_pl M) : a < 195 := by
  unfold en_pl at h
  by_cases h1 : M.1 84 25 = 0 <;> by_cases h2 : M.1 84 24 = 0 <;> simp only [h1, h2, if_true, if_false] at h <;> simp at h <;> omega
theorem en_wd_at {ad : Nat → Nat} {cs : Nat → ClassId} {M : Mm} {a : Nat} (h : a ∈ en_pl M) : ∃ i : Nat, (en_pl M)[i]? = some a ∧ (en_wd ad cs M)[i]? = some (ad a, en_cell ad cs M a) := by
  obtain ⟨i, hi⟩ := List.getElem?_of_mem h
  exact ⟨i, hi, by unfold en_wd; rw [List.getElem?_map, hi]; rfl⟩
theorem en_wd_set {ad : Nat → Nat} {cs : Nat → ClassId} {M M' : Mm} {a i : Nat} (hi : (en_pl M)[i]? = some a) (hp : en_pl M' = en_pl M) (hc : ∀ b, b ≠ a → en_cell ad cs M' b = en_cell ad cs M b) : (en_wd ad cs M).set i (ad a, en_cell ad cs M' a) = en_wd ad cs M' := by
  apply List.ext_getElem?
  intro k
  unfold en_wd
  rw [hp]
  by_cases hk : k = i
  · subst hk
    have hl := (List.getElem?_eq_some_iff.mp hi).1
    rw [List.getElem?_set_self (by rw [List.length_map]; exact hl), List.getElem?_map, hi]
    rfl
  · rw [List.getElem?_set_ne (Ne.symm hk), List.getElem?_map, List.getElem?_map]
    cases hb : (en_pl M)[k]? with
    | none => rfl
    | some b =>
      have hne : b ≠ a := by
        intro e
        subst e
        have h1 := (List.getElem?_eq_some_iff.mp hb)
        have h2 := (List.getElem?_eq_some_iff.mp hi)
        have hn := List.pairwise_iff_getElem.mp (en_nodup M)
        rcases Nat.lt_trichotomy k i with q | q | q
        · exact hn k i h1.1 h2.1 q (h1.2.trans h2.2.symm)
        · exact hk q
        · exact hn i k h2.1 h1.1 q (h2.2.trans h1.2.symm)
      simp only [Option.map_some]
      rw [hc b hne]
theorem en_fv_congr {ad : Nat → Nat} {M M' : Mm} {a k : Nat} (h1 : M'.1 a = M.1 a) (t : Nat × Nat × Nat × Nat) : en_fv ad M' a k t = en_fv ad M a k t := by
  unfold en_fv
  rw [h1]
theorem en_fs_congr {ad : Nat → Nat} {M M' : Mm} {a c : Nat} (h1 : M'.1 a = M.1 a) : en_fs ad M' a c = en_fs ad M a c := by
  unfold en_fs
  apply List.map_congr_left
  intro q _
  exact en_fv_congr h1 _
theorem en_cell_congr {ad : Nat → Nat} {cs : Nat → ClassId} {M M' : Mm} {a : Nat} (h1 : M'.1 a = M.1 a) (h2 : M'.2 a = M.2 a) : en_cell ad cs M' a = en_cell ad cs M a := by
  unfold en_cell
  simp only [en_fs_congr h1, h1, h2]
theorem en_wI_ne {M : Mm} {a j : Nat} {x : Int} {b : Nat} (h : b ≠ a) : (en_wI M a j x).1 b = M.1 b := by simp [en_wI, h]
theorem en_wI_2 {M : Mm} {a j : Nat} {x : Int} : (en_wI M a j x).2 = M.2 := rfl
theorem en_wL_1 {M : Mm} {a j : Nat} {x : Int} : (en_wL M a j x).1 = M.1 := rfl
theorem en_wL_ne {M : Mm} {a j : Nat} {x : Int} {b : Nat} (h : b ≠ a) : (en_wL M a j x).2 b = M.2 b := by simp [en_wL, h]
theorem en_wI_at {M : Mm} {a j i : Nat} {x : Int} : (en_wI M a j x).1 a i = if i = j then x else M.1 a i := by simp [en_wI]
theorem en_wL_at {M : Mm} {a j i : Nat} {x : Int} : (en_wL M a j x).2 a i = if i = j then x else M.2 a i := by simp [en_wL]
theorem en_pl_eq {M M' : Mm} (h1 : M'.1 84 25 = M.1 84 25) (h2 : M'.1 84 24 = M.1 84 24) : en_pl M' = en_pl M := by
  unfold en_pl
  rw [h1, h2]
theorem en_pl_wI {M : Mm} {a j : Nat} {x : Int} (h : a = 84 → j ≠ 24 ∧ j ≠ 25) : en_pl (en_wI M a j x) = en_pl M := by
  by_cases ha : a = 84
  · subst ha
    obtain ⟨h1, h2⟩ := h rfl
    exact en_pl_eq (by rw [en_wI_at, if_neg (Ne.symm h2)]) (by rw [en_wI_at, if_neg (Ne.symm h1)])
  · exact en_pl_eq (by rw [en_wI_ne (Ne.symm ha)]) (by rw [en_wI_ne (Ne.symm ha)])
theorem en_pl_wL {M : Mm} {a j : Nat} {x : Int} : en_pl (en_wL M a j x) = en_pl M := rfl
theorem en_pl_cI {M : Mm} {a0 a1 sp dp n : Nat} (h : a1 ≠ 84) : en_pl (en_cI M a0 a1 sp dp n) = en_pl M := en_pl_eq (by simp [en_cI, Ne.symm h]) (by simp [en_cI, Ne.symm h])
theorem en_pl_cL {M : Mm} {a0 a1 sp dp n : Nat} : en_pl (en_cL M a0 a1 sp dp n) = en_pl M := rfl
theorem en_ok_mono {sL : Nat} {M M' : Mm} {v : AV} (h : en_ok sL M v) (hp : ∀ a, a ∈ en_pl M → a ∈ en_pl M') : en_ok sL M' v := by
  obtain i | j | ⟨k, n, a⟩ := v
  · trivial
  · trivial
  · cases k with
    | zero => trivial
    | succ k =>
      rcases h with ⟨h1, h2, h3⟩ | h
      · exact Or.inl ⟨h1, h2, hp _ h3⟩
      · exact Or.inr h
theorem en_ok_0 {sL : Nat} {M : Mm} {v : AV} (h : en_ok sL M v) (h9 : en_n9 v = true) : en_ok 0 M v := by
  obtain i | j | ⟨k, n, a⟩ := v
  · trivial
  · trivial
  · cases k with
    | zero => trivial
    | succ k =>
      rcases h with h | h | h | h | ⟨h, -⟩ | h
      · exact Or.inl h
      · exact Or.inr (Or.inl h)
      · exact Or.inr (Or.inr (Or.inl h))
      · exact Or.inr (Or.inr (Or.inr (Or.inl h)))
      · rw [h] at h9; cases h9
      · exact Or.inr (Or.inr (Or.inr (Or.inr (Or.inr h))))
theorem en_ok_up {sL : Nat} {M : Mm} {v : AV} (h : en_ok 0 M v) : en_ok sL M v := by
  obtain i | j | ⟨k, n, a⟩ := v
  · trivial
  · trivial
  · cases k with
    | zero => trivial
    | succ k =>
      rcases h with h | h | h | h | ⟨-, h⟩ | h
      · exact Or.inl h
      · exact Or.inr (Or.inl h)
      · exact Or.inr (Or.inr (Or.inl h))
      · exact Or.inr (Or.inr (Or.inr (Or.inl h)))
      · omega
      · exact Or.inr (Or.inr (Or.inr (Or.inr (Or.inr h))))
theorem en_rv_agree {sL : Nat} {ad ad' : Nat → Nat} {cd : Nat → Nat → Nat} {M M' : Mm} {v : AV} (h : en_ok sL M v) (hg : en_agree ad ad' M M') : en_rv ad' cd v = en_rv ad cd v := by
  obtain i | j | ⟨k, n, a⟩ := v
  · rfl
  · rfl
  · match k, h with
    | 0, _ => rfl
    | 1, h => rcases h with ⟨-, -, h⟩ | h | h | h | h | h <;> first | exact congrArg Value.ref (hg a h).2 | omega
    | 2, h => rcases h with ⟨-, -, h⟩ | h | h | h | h | h <;> first | exact congrArg Value.ref (hg a h).2 | omega
    | 3, h => rcases h with ⟨-, -, h⟩ | h | h | h | h | h <;> first | exact congrArg Value.ref (hg a h).2 | omega
    | 4, h => rcases h with ⟨-, -, h⟩ | h | h | h | h | h <;> first | exact congrArg Value.ref (hg a h).2 | omega
    | 5, h => rcases h with ⟨-, -, h⟩ | h | h | h | h | h <;> first | exact congrArg Value.ref (hg a h).2 | omega
    | 6, _ => rfl
    | 7, _ => rfl
    | 8, _ => rfl
    | 9, _ => rfl
    | k + 10, _ => rfl
theorem en_agree_refl {ad : Nat → Nat} {M M' : Mm} (hp : en_pl M' = en_pl M) : en_agree ad ad M M' := fun a h => ⟨hp ▸ h, rfl⟩
theorem en_agree_trans {ad ad' ad'' : Nat → Nat} {M M' M'' : Mm} (h1 : en_agree ad ad' M M') (h2 : en_agree ad' ad'' M' M'') : en_agree ad ad'' M M'' := fun a h => ⟨(h2 a (h1 a h).1).1, (h2 a (h1 a h).1).2.trans (h1 a h).2⟩
theorem en_cat_eq (ad : Nat → Nat) (cd : Nat → Nat → Nat) (v : AV) : (en_rv ad cd v).category = en_cat v := by
  obtain i | j | ⟨k, n, a⟩ := v
  · rfl
  · rfl
  · match k with
    | 0 => rfl
    | 1 => rfl
    | 2 => rfl
    | 3 => rfl
    | 4 => rfl
    | 5 => rfl
    | 6 => rfl
    | 7 => rfl
    | 8 => rfl
    | 9 => rfl
    | k + 10 =>
      show (match cd 10 0 with | 0 => Value.null | t + 1 => .ref t).category = 1
      cases cd 10 0 <;> rfl
theorem en_sum_eq (ad : Nat → Nat) (cd : Nat → Nat → Nat) (st : List AV) : ((st.map (en_rv ad cd)).map fun v => v.category).sum = en_sum st := by
  unfold en_sum
  rw [List.map_map]
  congr 1
  apply List.map_congr_left
  intro v _
  exact en_cat_eq ad cd v
/-- places below 195: what is checked once -/
def en_chk (a : Nat) : Bool := match en_lay.getD a (0, 0) with
  | (1, c) => ((en_ft.getD c []).all (fun t => match t with
      | (2, tk, tn, off) => decide (1 ≤ tk ∧ tk ≤ 5) && (decide (en_lay[a + off]? = some (tk, tn)) && (decide (a < 121 ∧ a + off < 121) || (decide (121 ≤ a ∧ a < 158 ∧ a + off < 158) || decide (158 ≤ a ∧ a + off < 195))))
      | _ => true)) && decide ((vwCl[c]?).map (fun q => q.2.2) = some (en_ft.getD c []).length)
  | (5, n) => match en_ra.getD n (0, 0, 0, 0, 0, 0) with
      | (len, ek, en, off, sd, _) => decide (1 ≤ ek ∧ ek ≤ 5) && (List.range len).all (fun j => decide (en_lay[a + off + sd * j]? = some (ek, en)) && (decide (a < 121 ∧ a + off + sd * j < 121) || (decide (121 ≤ a ∧ a < 158 ∧ a + off + sd * j < 158) || decide (158 ≤ a ∧ a + off + sd * j < 195))))
  | _ => true
theorem en_chk_all : (List.range 195).all en_chk = true := by decide +kernel
theorem en_chk_at {a : Nat} (h : a < 195) : en_chk a = true := List.all_eq_true.mp en_chk_all a (List.mem_range.mpr h)
theorem en_pl_same {M : Mm} {a b : Nat} (h : a ∈ en_pl M) (hb : (a < 121 ∧ b < 121) ∨ (121 ≤ a ∧ a < 158 ∧ 121 ≤ b ∧ b < 158) ∨ (158 ≤ a ∧ 158 ≤ b ∧ b < 195)) : b ∈ en_pl M := by
  unfold en_pl at h ⊢
  by_cases h1 : M.1 84 25 = 0 <;> by_cases h2 : M.1 84 24 = 0 <;> simp only [h1, h2, if_true, if_false] at h ⊢ <;> simp at h ⊢ <;> first | omega | (rcases hb with hb | hb | hb <;> first | omega | (refine Or.inl ?_; omega) | (refine Or.inr (Or.inl ⟨b - 121, ?_, ?_⟩) <;> omega) | (refine Or.inr (Or.inr ⟨b - 158, ?_, ?_⟩) <;> omega) | (refine Or.inr ⟨b - 121, ?_, ?_⟩ <;> omega) | (refine Or.inr ⟨b - 158, ?_, ?_⟩ <;> omega))
