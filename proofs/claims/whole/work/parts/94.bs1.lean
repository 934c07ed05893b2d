/-! the best sheet: words in a line, sheets made of them -/
def lt2 (cost : Nat → Int) (a b : Nat) : Prop := cost a < cost b ∨ (cost a = cost b ∧ a < b)
def ins (cost : Nat → Int) (w : Nat) : List Nat → List Nat
  | [] => [w]
  | a :: r => if cost a ≤ cost w then a :: ins cost w r else w :: a :: r
theorem ins_mem {cost : Nat → Int} {w x : Nat} : ∀ l : List Nat, x ∈ ins cost w l ↔ x = w ∨ x ∈ l
  | [] => by simp [ins]
  | a :: r => by
    unfold ins
    split
    · rw [List.mem_cons, List.mem_cons, ins_mem r]
      constructor
      · rintro (h | h | h)
        · exact Or.inr (Or.inl h)
        · exact Or.inl h
        · exact Or.inr (Or.inr h)
      · rintro (h | h | h)
        · exact Or.inr (Or.inl h)
        · exact Or.inl h
        · exact Or.inr (Or.inr h)
    · rw [List.mem_cons]
theorem ins_len {cost : Nat → Int} {w : Nat} : ∀ l : List Nat, (ins cost w l).length = l.length + 1
  | [] => rfl
  | a :: r => by
    unfold ins
    split
    · rw [List.length_cons, ins_len r, List.length_cons]
    · rfl
theorem ins_sorted {cost : Nat → Int} {w : Nat} : ∀ l : List Nat, l.Pairwise (lt2 cost) → (∀ x ∈ l, x < w) → (ins cost w l).Pairwise (lt2 cost)
  | [], _, _ => by simp [ins]
  | a :: r, hp, hw => by
    have h1 := List.pairwise_cons.mp hp
    have ha := hw a (List.mem_cons_self ..)
    unfold ins
    split
    · rename_i hc
      refine List.pairwise_cons.mpr ⟨fun x hx => ?_, ins_sorted r h1.2 (fun x hx => hw x (List.mem_cons_of_mem _ hx))⟩
      rcases (ins_mem r).mp hx with z | z
      · subst z
        unfold lt2
        omega
      · exact h1.1 x z
    · rename_i hc
      refine List.pairwise_cons.mpr ⟨fun x hx => ?_, hp⟩
      rcases List.mem_cons.mp hx with z | z
      · subst z
        unfold lt2
        omega
      · have := h1.1 x z
        unfold lt2 at this ⊢
        omega
def lnp (E : Ev) (p : Nat) : Nat → List Nat
  | 0 => []
  | n + 1 => if s_can E p n = true then ins (s_cost E) n (lnp E p n) else lnp E p n
theorem lnp_mem {E : Ev} {p w : Nat} : ∀ n, w ∈ lnp E p n ↔ w < n ∧ s_can E p w = true
  | 0 => by simp [lnp]
  | n + 1 => by
    unfold lnp
    split
    · rename_i hc
      rw [ins_mem, lnp_mem n]
      constructor
      · rintro (h | h)
        · subst h; exact ⟨by omega, hc⟩
        · exact ⟨by omega, h.2⟩
      · rintro ⟨h1, h2⟩
        by_cases hw : w = n
        · exact Or.inl hw
        · exact Or.inr ⟨by omega, h2⟩
    · rename_i hc
      rw [lnp_mem n]
      constructor
      · rintro ⟨h1, h2⟩
        exact ⟨by omega, h2⟩
      · rintro ⟨h1, h2⟩
        refine ⟨?_, h2⟩
        have : w ≠ n := fun z => hc (z ▸ h2)
        omega
theorem lnp_sorted {E : Ev} {p : Nat} : ∀ n, (lnp E p n).Pairwise (lt2 (s_cost E))
  | 0 => by simp [lnp]
  | n + 1 => by
    unfold lnp
    split
    · exact ins_sorted _ (lnp_sorted n) (fun x hx => ((lnp_mem n).mp hx).1)
    · exact lnp_sorted n
theorem lnp_len {E : Ev} {p : Nat} : ∀ n, (lnp E p n).length ≤ n
  | 0 => Nat.le_refl 0
  | n + 1 => by
    have := lnp_len (E := E) (p := p) n
    unfold lnp
    split
    · rw [ins_len]; omega
    · omega
def lin (E : Ev) (p : Nat) : List Nat := lnp E p (E.1 0 1).toNat
theorem lin_mem {E : Ev} {p w : Nat} : w ∈ lin E p ↔ w < (E.1 0 1).toNat ∧ s_can E p w = true := lnp_mem _
/-- a set's bits -/
def bts : List Nat → Nat
  | [] => 0
  | w :: r => 2 ^ w ||| bts r
theorem bts_bit : ∀ (l : List Nat) (w : Nat), (bts l).testBit w = decide (w ∈ l)
  | [], w => by simp [bts]
  | a :: r, w => by
    unfold bts
    rw [Nat.testBit_or, Nat.testBit_two_pow, bts_bit r w]
    by_cases h : w = a
    · subst h; simp
    · have h2 : ¬ a = w := fun z => h z.symm
      simp [h, h2]
theorem bts_app : ∀ (l r : List Nat), bts (l ++ r) = bts l ||| bts r
  | [], r => by simp [bts]
  | a :: l, r => by
    show 2 ^ a ||| bts (l ++ r) = 2 ^ a ||| bts l ||| bts r
    rw [bts_app l r, Nat.or_assoc]
theorem bts_le {l r : List Nat} (h : ∀ w, w ∈ l → w ∈ r) : bts l ≤ bts r := by
  have e : bts l ||| bts r = bts r := by
    refine Nat.eq_of_testBit_eq (fun w => ?_)
    rw [Nat.testBit_or, bts_bit, bts_bit]
    by_cases hl : w ∈ l
    · simp [hl, h w hl]
    · simp [hl]
  have h2 : bts l ≤ bts l ||| bts r := Nat.left_le_or
  omega
theorem bts_lt {n : Nat} : ∀ l : List Nat, (∀ w ∈ l, w < n) → bts l < 2 ^ n
  | [], _ => Nat.two_pow_pos n
  | a :: r, h => Nat.or_lt_two_pow (Nat.pow_lt_pow_right (by decide) (h a (List.mem_cons_self ..))) (bts_lt r (fun w hw => h w (List.mem_cons_of_mem _ hw)))
/-- sums -/
def sm (g : Nat → Int) : List Nat → Int
  | [] => 0
  | w :: r => g w + sm g r
theorem sm_app {g : Nat → Int} : ∀ (l r : List Nat), sm g (l ++ r) = sm g l + sm g r
  | [], r => by simp [sm]
  | a :: l, r => by
    show g a + sm g (l ++ r) = g a + sm g l + sm g r
    rw [sm_app l r]
    omega
theorem sm_c {g h : Nat → Int} : ∀ l : List Nat, (∀ w ∈ l, g w = h w) → sm g l = sm h l
  | [], _ => rfl
  | a :: r, hq => by
    show g a + sm g r = h a + sm h r
    rw [hq a (List.mem_cons_self ..), sm_c r (fun w hw => hq w (List.mem_cons_of_mem _ hw))]
theorem sm_nn {g : Nat → Int} : ∀ l : List Nat, (∀ w ∈ l, 0 ≤ g w) → 0 ≤ sm g l
  | [], _ => Int.le_refl 0
  | a :: r, hq => by
    have h1 := hq a (List.mem_cons_self ..)
    have h2 := sm_nn r (fun w hw => hq w (List.mem_cons_of_mem _ hw))
    show 0 ≤ g a + sm g r
    omega
theorem sm_len {g : Nat → Int} {b : Int} : ∀ l : List Nat, (∀ w ∈ l, g w ≤ b) → sm g l ≤ b * (l.length : Int)
  | [], _ => by simp [sm]
  | a :: r, hq => by
    have h1 := hq a (List.mem_cons_self ..)
    have h2 := sm_len (b := b) r (fun w hw => hq w (List.mem_cons_of_mem _ hw))
    show g a + sm g r ≤ _
    rw [List.length_cons, Int.natCast_add, Int.mul_add]
    simp only [Int.natCast_one, Int.mul_one]
    omega
/-- an evening with another sheet of one person -/
def shE (E : Ev) (p : Nat) (l : List Nat) : Ev := u_sh E (fun i => ((l.getD i 0 : Nat) : Int)) l.length p
theorem shl_list (l : List Nat) : shl (fun i => ((l.getD i 0 : Nat) : Int)) 0 l.length = l := by
  apply List.ext_getElem?
  intro j
  by_cases hj : j < l.length
  · rw [shl_get _ _ _ _ hj, Nat.zero_add, Int.toNat_natCast, List.getD_eq_getElem?_getD, List.getElem?_eq_getElem hj]
    rfl
  · rw [List.getElem?_eq_none (by rw [shl_len]; omega), List.getElem?_eq_none (by omega)]
theorem shE_p {E : Ev} {p : Nat} {l : List Nat} : s_shl (shE E p l) p = l := by
  unfold s_shl
  have h1 : (shE E p l).1 14 p = (l.length : Int) := by simp [shE, u_sh]
  rw [h1, Int.toNat_natCast]
  refine (shl_congr _ _ (fun j _ hj => ?_)).trans (shl_list l)
  have hj' : j < l.length := by omega
  simp [shE, u_sh, hj']
theorem shE_q {E : Ev} {p q : Nat} {l : List Nat} (h : q ≠ p) : s_shl (shE E p l) q = s_shl E q := by
  unfold s_shl
  have h1 : (shE E p l).1 14 q = E.1 14 q := by simp [shE, u_sh, h]
  have h2 : (shE E p l).2 q = E.2 q := by simp [shE, u_sh, h]
  rw [h1, h2]
theorem shE_can {E : Ev} {p : Nat} {l : List Nat} : s_can (shE E p l) = s_can E := rfl
theorem shE_cost {E : Ev} {p : Nat} {l : List Nat} : s_cost (shE E p l) = s_cost E := rfl
theorem shE_vote {E : Ev} {p : Nat} {l : List Nat} : s_vote (shE E p l) = s_vote E := rfl
theorem shE_r {E : Ev} {p : Nat} {l : List Nat} {r : Nat} (h : r ≠ 14) : (shE E p l).1 r = E.1 r := by simp [shE, u_sh, h]
/-- words that can be one sheet -/
def vld (E : Ev) (p : Nat) (l : List Nat) : Prop := (∀ w ∈ l, s_can E p w = true ∧ (w : Int) < E.1 0 1) ∧ l.Pairwise (fun a b => E.1 4 a ≠ E.1 4 b)
theorem vld_len {E : Ev} (hg : s_ok E) {p : Nat} {l : List Nat} (h : vld E p l) : l.length ≤ 5 := by
  have hc : ∀ w ∈ l, 0 ≤ E.1 4 w ∧ E.1 4 w < 5 := fun w hw => by
    have h1 := (hg.2.1 w (h.1 w hw).2).2.2.1
    have := hg.1.1
    omega
  have key := ph 5 (l.map (fun w => (E.1 4 w).toNat)) (List.pairwise_map.mpr (List.Pairwise.imp_of_mem (fun {a b} ha hb hab he => by
    have h1 := hc a ha
    have h2 := hc b hb
    exact hab (by omega)) h.2)) (fun x hx => by
    obtain ⟨w, hw, he⟩ := List.mem_map.mp hx
    have := hc w hw
    omega)
  rw [List.length_map] at key
  exact key
theorem getD_mem {l : List Nat} {i : Nat} (h : i < l.length) : l.getD i 0 ∈ l := by
  rw [List.getD_eq_getElem?_getD, List.getElem?_eq_getElem h]
  exact List.getElem_mem h
theorem ok_shE {E : Ev} (hg : s_ok E) {p : Nat} {l : List Nat} (h : vld E p l) : s_ok (shE E p l) := by
  refine ok_sh (q := p) hg (vld_len hg h) (fun k hk => ?_)
  have hm := getD_mem hk
  have h1 := h.1 _ hm
  refine ⟨⟨Int.natCast_nonneg _, h1.2⟩, by rw [Int.toNat_natCast]; exact h1.1, fun i hi => ?_⟩
  rw [Int.toNat_natCast, Int.toNat_natCast]
  have hp := List.pairwise_iff_getElem.mp h.2 i k (by omega) hk hi
  rw [List.getD_eq_getElem?_getD, List.getD_eq_getElem?_getD, List.getElem?_eq_getElem hk, List.getElem?_eq_getElem (by omega)]
  exact hp
theorem vld_sub {E : Ev} {p : Nat} {l r : List Nat} (h : vld E p r) (hs : List.Sublist l r) : vld E p l := ⟨fun w hw => h.1 w (hs.subset hw), h.2.sublist hs⟩
/-- words written one after the other, as far as a second -/
def pf (cost : Nat → Int) (c : Int) : List Nat → Int → List Nat
  | [], _ => []
  | w :: r, t => if t + cost w ≤ c then w :: pf cost c r (t + cost w) else []
def ws_ (can : Nat → Bool) (cost : Nat → Int) : List Nat → Int → List (Nat × Int)
  | [], _ => []
  | w :: r, t => if can w = true then (w, t + cost w) :: ws_ can cost r (t + cost w) else ws_ can cost r t
theorem wr_ws {can : Nat → Bool} {cost : Nat → Int} {sec : Int} {j : Nat} : ∀ (l : List Nat) (t : Int) (b : Nat), (s_wr can cost sec l t b).testBit j = true ↔ (b.testBit j = true ∨ ∃ x, (j, x) ∈ ws_ can cost l t ∧ x ≤ sec)
  | [], t, b => by simp [s_wr, ws_]
  | w :: r, t, b => by
    unfold s_wr ws_
    split
    · rw [wr_ws r]
      constructor
      · rintro (h | ⟨x, h1, h2⟩)
        · split at h
          · rw [or_bit, Bool.or_eq_true, decide_eq_true_eq] at h
            rcases h with h | h
            · exact Or.inl h
            · subst h
              exact Or.inr ⟨_, List.mem_cons_self .., ‹_›⟩
          · exact Or.inl h
        · exact Or.inr ⟨x, List.mem_cons_of_mem _ h1, h2⟩
      · rintro (h | ⟨x, h1, h2⟩)
        · left
          split
          · rw [or_bit, h, Bool.true_or]
          · exact h
        · rcases List.mem_cons.mp h1 with z | z
          · left
            cases z
            rw [if_pos h2, or_bit]
            simp
          · exact Or.inr ⟨x, z, h2⟩
    · exact wr_ws r t b
theorem ws_ge {can : Nat → Bool} {cost : Nat → Int} {j : Nat} {x : Int} : ∀ (l : List Nat) (t : Int), (∀ w ∈ l, can w = true → 1 ≤ cost w) → (j, x) ∈ ws_ can cost l t → t < x ∧ j ∈ l
  | [], t, _, h => by simp [ws_] at h
  | w :: r, t, hc, h => by
    unfold ws_ at h
    have hr : ∀ v ∈ r, can v = true → 1 ≤ cost v := fun v hv => hc v (List.mem_cons_of_mem _ hv)
    split at h
    · have h1 := hc w (List.mem_cons_self ..) ‹_›
      rcases List.mem_cons.mp h with z | z
      · cases z
        exact ⟨by omega, List.mem_cons_self ..⟩
      · have := ws_ge r _ hr z
        exact ⟨by omega, List.mem_cons_of_mem _ this.2⟩
    · have := ws_ge r _ hr h
      exact ⟨this.1, List.mem_cons_of_mem _ this.2⟩
/-- of words that are all written and stand once: a word is written by a second just if it is among the first ones -/
theorem ws_pf {can : Nat → Bool} {cost : Nat → Int} {sec : Int} {j : Nat} : ∀ (l : List Nat) (t : Int), (∀ w ∈ l, can w = true ∧ 1 ≤ cost w) → l.Nodup → ((∃ x, (j, x) ∈ ws_ can cost l t ∧ x ≤ sec) ↔ j ∈ pf cost sec l t)
  | [], t, _, _ => by simp [ws_, pf]
  | w :: r, t, hc, hn => by
    have h1 := hc w (List.mem_cons_self ..)
    have hr : ∀ v ∈ r, can v = true ∧ 1 ≤ cost v := fun v hv => hc v (List.mem_cons_of_mem _ hv)
    have hn' := List.nodup_cons.mp hn
    have ih := ws_pf (can := can) (cost := cost) (sec := sec) (j := j) r (t + cost w) hr hn'.2
    unfold ws_ pf
    rw [if_pos h1.1]
    by_cases hs : t + cost w ≤ sec
    · rw [if_pos hs, List.mem_cons, ← ih]
      constructor
      · rintro ⟨x, hx, h2⟩
        rcases List.mem_cons.mp hx with z | z
        · cases z; exact Or.inl rfl
        · exact Or.inr ⟨x, z, h2⟩
      · rintro (z | ⟨x, z, h2⟩)
        · subst z; exact ⟨_, List.mem_cons_self .., hs⟩
        · exact ⟨x, List.mem_cons_of_mem _ z, h2⟩
    · rw [if_neg hs]
      constructor
      · rintro ⟨x, hx, h2⟩
        rcases List.mem_cons.mp hx with z | z
        · cases z; omega
        · have := ws_ge r _ (fun v hv _ => (hr v hv).2) z
          omega
      · intro z
        cases z
theorem pf_sub {cost : Nat → Int} {c : Int} : ∀ (l : List Nat) (t : Int), List.Sublist (pf cost c l t) l
  | [], _ => List.Sublist.slnil
  | w :: r, t => by
    unfold pf
    split
    · exact (pf_sub r _).cons₂ w
    · exact List.nil_sublist _
theorem pf_all {cost : Nat → Int} {c : Int} : ∀ (l : List Nat) (t : Int), (∀ w ∈ l, 1 ≤ cost w) → t + sm cost l ≤ c → pf cost c l t = l
  | [], _, _, _ => rfl
  | w :: r, t, hc, h => by
    have hr : ∀ v ∈ r, 1 ≤ cost v := fun v hv => hc v (List.mem_cons_of_mem _ hv)
    have h0 := sm_nn (g := cost) r (fun v hv => by have := hr v hv; omega)
    have h' : t + (cost w + sm cost r) ≤ c := h
    unfold pf
    rw [if_pos (by omega), pf_all r _ hr (by omega)]
theorem pf_sum {cost : Nat → Int} {c : Int} : ∀ (l : List Nat) (t : Int), t ≤ c → t + sm cost (pf cost c l t) ≤ c
  | [], t, h => by simp only [pf, sm]; omega
  | w :: r, t, h => by
    unfold pf
    split
    · have := pf_sum (cost := cost) r (t + cost w) ‹_›
      show t + (cost w + _) ≤ c
      omega
    · simp only [sm]; omega
/-- the first ones, cut to k -/
theorem pf_take {cost : Nat → Int} {c : Int} : ∀ (l : List Nat) (t : Int) (k : Nat), (∀ w ∈ l, 1 ≤ cost w) → k ≤ l.length → t + sm cost (l.take k) ≤ c → k ≤ (pf cost c l t).length ∧ (pf cost c l t).take k = l.take k
  | l, t, 0, _, _, _ => by simp
  | [], t, k + 1, _, h, _ => by simp at h
  | w :: r, t, k + 1, hc, hk, h => by
    have hr : ∀ v ∈ r, 1 ≤ cost v := fun v hv => hc v (List.mem_cons_of_mem _ hv)
    rw [List.take_succ_cons] at h ⊢
    have h' : t + (cost w + sm cost (r.take k)) ≤ c := h
    have h0 := sm_nn (g := cost) (r.take k) (fun v hv => by have := hr v (List.mem_of_mem_take hv); omega)
    have ih := pf_take (c := c) r (t + cost w) k hr (by simpa using hk) (by omega)
    unfold pf
    rw [if_pos (by omega), List.length_cons, List.take_succ_cons, ih.2]
    exact ⟨by omega, rfl⟩
theorem pf_tk {cost : Nat → Int} : ∀ (l : List Nat) (t : Int) (k : Nat), (∀ w ∈ l, 1 ≤ cost w) → k ≤ l.length → pf cost (t + sm cost (l.take k)) l t = l.take k
  | l, t, 0, hc, _ => by
    rw [List.take_zero]
    cases l with
    | nil => rfl
    | cons w r =>
      have := hc w (List.mem_cons_self ..)
      unfold pf
      rw [if_neg (by simp only [sm]; omega)]
  | [], t, k + 1, _, h => by simp at h
  | w :: r, t, k + 1, hc, hk => by
    have hr : ∀ v ∈ r, 1 ≤ cost v := fun v hv => hc v (List.mem_cons_of_mem _ hv)
    have h0 := sm_nn (g := cost) (r.take k) (fun v hv => by have := hr v (List.mem_of_mem_take hv); omega)
    rw [List.take_succ_cons]
    have e : t + sm cost (w :: r.take k) = t + cost w + sm cost (r.take k) := by
      show t + (cost w + sm cost (r.take k)) = _
      omega
    rw [e]
    unfold pf
    rw [if_pos (by omega), pf_tk r (t + cost w) k hr (by simpa using hk)]
