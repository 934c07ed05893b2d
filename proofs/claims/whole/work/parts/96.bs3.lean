/-! the best sheet: two ways of seeking it -/
def exw (E : Ev) (L : Int) : Nat → List Nat → Int → List Nat → List (List Nat × Int)
  | _, [], _, _ => []
  | 0, _ :: _, _, _ => []
  | d + 1, w :: r, t, pre => if L < t + s_cost E w then [] else (if pre.all (fun v => decide (E.1 4 v ≠ E.1 4 w)) = true then (pre ++ [w], t + s_cost E w) :: exw E L d r (t + s_cost E w) (pre ++ [w]) else []) ++ exw E L (d + 1) r t pre
theorem exw_0 {E : Ev} {L t : Int} {r pre : List Nat} : exw E L 0 r t pre = [] := by cases r <;> simp [exw]
theorem exw_nil {E : Ev} {L t : Int} {d : Nat} {pre : List Nat} : exw E L d [] t pre = [] := by cases d <;> simp [exw]
theorem exw_s {E : Ev} {L t : Int} {d w : Nat} {r pre : List Nat} : exw E L (d + 1) (w :: r) t pre = if L < t + s_cost E w then [] else (if pre.all (fun v => decide (E.1 4 v ≠ E.1 4 w)) = true then (pre ++ [w], t + s_cost E w) :: exw E L d r (t + s_cost E w) (pre ++ [w]) else []) ++ exw E L (d + 1) r t pre := by rw [exw]
def dcl (E : Ev) (a b : Nat) : Prop := E.1 4 a ≠ E.1 4 b
theorem dcl_app {E : Ev} {l : List Nat} {w : Nat} (h : l.Pairwise (dcl E)) (hw : l.all (fun v => decide (E.1 4 v ≠ E.1 4 w)) = true) : (l ++ [w]).Pairwise (dcl E) := by
  refine List.pairwise_append.mpr ⟨h, List.pairwise_singleton _ _, fun a ha b hb => ?_⟩
  rw [List.mem_singleton] at hb
  subst hb
  have := List.all_eq_true.mp hw a ha
  exact of_decide_eq_true (p := E.1 4 a ≠ E.1 4 b) this
theorem exw_snd {E : Ev} {L : Int} : ∀ (r : List Nat) (d : Nat) (t : Int) (pre : List Nat) (x : List Nat × Int), pre.Pairwise (dcl E) → x ∈ exw E L d r t pre → ∃ a, x.1 = pre ++ a ∧ List.Sublist a r ∧ a.length ≤ d ∧ x.2 = t + sm (s_cost E) a ∧ x.2 ≤ L ∧ x.1.Pairwise (dcl E)
  | [], d, t, pre, x, _, h => by rw [exw_nil] at h; cases h
  | w :: r, 0, t, pre, x, _, h => by rw [exw_0] at h; cases h
  | w :: r, d + 1, t, pre, x, hp, h => by
    rw [exw_s] at h
    by_cases h1 : L < t + s_cost E w
    · rw [if_pos h1] at h; cases h
    · rw [if_neg h1, List.mem_append] at h
      rcases h with h | h
      · by_cases h2 : pre.all (fun v => decide (E.1 4 v ≠ E.1 4 w)) = true
        · rw [if_pos h2] at h
          have hp2 := dcl_app hp h2
          rcases List.mem_cons.mp h with z | z
          · subst z
            exact ⟨[w], rfl, (List.nil_sublist r).cons₂ w, by simp, by simp [sm], by dsimp only; omega, hp2⟩
          · obtain ⟨a, a1, a2, a3, a4, a5, a6⟩ := exw_snd r d _ _ x hp2 z
            refine ⟨w :: a, by rw [a1, List.append_assoc]; rfl, a2.cons₂ w, by rw [List.length_cons]; omega, ?_, a5, a6⟩
            rw [a4]
            show _ = t + (s_cost E w + sm (s_cost E) a)
            omega
        · rw [if_neg h2] at h; cases h
      · obtain ⟨a, a1, a2, a3⟩ := exw_snd r (d + 1) _ _ x hp h
        exact ⟨a, a1, a2.cons w, a3⟩
theorem exw_cmp {E : Ev} {L : Int} : ∀ (r : List Nat) (d : Nat) (t : Int) (pre a : List Nat), (∀ w ∈ r, 1 ≤ s_cost E w) → r.Pairwise (fun x y => s_cost E x ≤ s_cost E y) → List.Sublist a r → a ≠ [] → a.length ≤ d → t + sm (s_cost E) a ≤ L → (pre ++ a).Pairwise (dcl E) → (pre ++ a, t + sm (s_cost E) a) ∈ exw E L d r t pre
  | [], d, t, pre, a, _, _, hs, hn, _, _, _ => by
    cases hs
    exact absurd rfl hn
  | w :: r, 0, t, pre, a, _, _, hs, hn, hd, _, _ => by
    cases a with
    | nil => exact absurd rfl hn
    | cons b q => simp at hd
  | w :: r, d + 1, t, pre, a, hc, hso, hs, hn, hd, hl, hp => by
    have hr : ∀ v ∈ r, 1 ≤ s_cost E v := fun v hv => hc v (List.mem_cons_of_mem _ hv)
    have hso' := List.pairwise_cons.mp hso
    have hnn : ∀ q : List Nat, List.Sublist q r → 0 ≤ sm (s_cost E) q := fun q hq => sm_nn q (fun v hv => by have := hr v (hq.subset hv); omega)
    rw [exw_s]
    cases hs with
    | cons _ hs' =>
      have h1 : ¬ L < t + s_cost E w := by
        cases a with
        | nil => exact absurd rfl hn
        | cons b q =>
          have hb : b ∈ r := hs'.subset (List.mem_cons_self ..)
          have hq := hnn q ((List.sublist_cons_self b q).trans hs')
          have hcb := hso'.1 b hb
          have hl' : t + (s_cost E b + sm (s_cost E) q) ≤ L := hl
          omega
      rw [if_neg h1, List.mem_append]
      exact Or.inr (exw_cmp (E := E) (L := L) r (d + 1) t pre a hr hso'.2 hs' hn hd hl hp)
    | cons_cons _ hs' =>
      rename_i q
      have hq := hnn q hs'
      have hl' : t + (s_cost E w + sm (s_cost E) q) ≤ L := hl
      have hp1 := List.pairwise_append.mp hp
      have hall : pre.all (fun v => decide (E.1 4 v ≠ E.1 4 w)) = true := List.all_eq_true.mpr (fun v hv => decide_eq_true (hp1.2.2 v hv w (List.mem_cons_self ..)))
      rw [if_neg (by omega), List.mem_append, if_pos hall]
      left
      cases q with
      | nil =>
        have e : t + sm (s_cost E) [w] = t + s_cost E w := by simp [sm]
        rw [e]
        exact List.mem_cons_self ..
      | cons b q =>
        refine List.mem_cons_of_mem _ ?_
        have hx := exw_cmp (E := E) (L := L) r d (t + s_cost E w) (pre ++ [w]) (b :: q) hr hso'.2 hs' (by intro z; cases z) (by rw [List.length_cons] at hd; omega) (by omega) (by rw [List.append_assoc]; exact hp)
        rw [List.append_assoc] at hx
        have e : t + sm (s_cost E) (w :: b :: q) = t + s_cost E w + sm (s_cost E) (b :: q) := by
          show t + (s_cost E w + _) = _
          omega
        rw [e]
        exact hx
def stp (E : Ev) (p : Nat) (s : Int × Nat × Int) (x : List Nat × Int) : Int × Nat × Int :=
  if s.1 < sm (gv E p (if x.1.length = (E.1 1 1).toNat then x.2 else lim E p)) x.1 ∨ (sm (gv E p (if x.1.length = (E.1 1 1).toNat then x.2 else lim E p)) x.1 = s.1 ∧ bts x.1 < s.2.1) then (sm (gv E p (if x.1.length = (E.1 1 1).toNat then x.2 else lim E p)) x.1, bts x.1, if x.1.length = (E.1 1 1).toNat then x.2 else lim E p) else s
def bst (E : Ev) (p : Nat) : Int × Nat × Int := (exw E (lim E p) (E.1 1 1).toNat (lin E p) 0 []).foldl (stp E p) (0, 0, lim E p)
def stB (E : Ev) (p : Nat) (s : Int × Nat × Int) (l : List Nat) : Int × Nat × Int := if s.1 < val E p l ∨ (val E p l = s.1 ∧ bts l < s.2.1) then (val E p l, bts l, cl E p l) else s
def isB (E : Ev) (p : Nat) (Cs : List (List Nat)) (s : Int × Nat × Int) : Prop := (∃ l ∈ Cs, s = (val E p l, bts l, cl E p l)) ∧ ∀ m ∈ Cs, val E p m < s.1 ∨ (val E p m = s.1 ∧ s.2.1 ≤ bts m)
theorem isB_st {E : Ev} {p : Nat} {D : List (List Nat)} {s : Int × Nat × Int} {l : List Nat} (h : isB E p D s) : isB E p (D ++ [l]) (stB E p s l) := by
  obtain ⟨⟨k, k1, k2⟩, h2⟩ := h
  unfold stB
  by_cases hc : s.1 < val E p l ∨ (val E p l = s.1 ∧ bts l < s.2.1)
  · rw [if_pos hc]
    refine ⟨⟨l, List.mem_append.mpr (Or.inr (List.mem_singleton.mpr rfl)), rfl⟩, fun m hm => ?_⟩
    rcases List.mem_append.mp hm with z | z
    · have := h2 m z
      dsimp only
      omega
    · rw [List.mem_singleton] at z
      subst z
      exact Or.inr ⟨rfl, Nat.le_refl _⟩
  · rw [if_neg hc]
    refine ⟨⟨k, List.mem_append.mpr (Or.inl k1), k2⟩, fun m hm => ?_⟩
    rcases List.mem_append.mp hm with z | z
    · exact h2 m z
    · rw [List.mem_singleton] at z
      subst z
      omega
theorem isB_fold {E : Ev} {p : Nat} : ∀ (Cs : List (List Nat)) (D : List (List Nat)) (s : Int × Nat × Int), isB E p D s → isB E p (D ++ Cs) (Cs.foldl (stB E p) s)
  | [], D, s, h => by rw [List.append_nil]; exact h
  | l :: r, D, s, h => by
    have := isB_fold r (D ++ [l]) (stB E p s l) (isB_st h)
    rw [List.append_assoc] at this
    exact this
theorem lin_nd {E : Ev} {p : Nat} : (lin E p).Nodup := (lnp_sorted _).imp (fun h e => by unfold lt2 at h; subst e; omega)
theorem lin_vld {E : Ev} {p : Nat} {a : List Nat} (hs : List.Sublist a (lin E p)) (hd : a.Pairwise (dcl E)) (hg : s_ok E) : vld E p a := ⟨fun w hw => by
  have h := lin_mem.mp (hs.subset hw)
  have := hg.1.2.1
  exact ⟨h.2, by omega⟩, hd⟩
theorem ex_cl {E : Ev} (hg : s_ok E) {p : Nat} {l : List Nat} {t : Int} (hl : l.length ≤ (E.1 1 1).toNat) (ht : t = sm (s_cost E) l) (hL : t ≤ lim E p) (hc : ∀ w ∈ l, 1 ≤ s_cost E w) : (if l.length = (E.1 1 1).toNat then t else lim E p) = cl E p l ∧ sm (gv E p (cl E p l)) l = val E p l := by
  have hb := lim_b hg (p := p)
  have e : (if l.length = (E.1 1 1).toNat then t else lim E p) = cl E p l := by
    by_cases h : l.length = (E.1 1 1).toNat
    · have r : rdl E l = t := by
        unfold rdl
        rw [if_pos (by omega), List.take_of_length_le (by omega), ← ht]
      unfold cl
      rw [if_pos h, r]
      by_cases z : t < lim E p
      · rw [if_pos z]
      · rw [if_neg z]; omega
    · have r : rdl E l = 1000000 := by
        unfold rdl
        rw [if_neg (by omega)]
      unfold cl
      rw [if_neg h, r, if_neg (by omega)]
  refine ⟨e, ?_⟩
  unfold val
  rw [pf_all l 0 hc]
  rw [← e]
  split <;> omega
theorem val_nil {E : Ev} (hg : s_ok E) {p : Nat} : val E p [] = 0 ∧ cl E p [] = lim E p := by
  have hb := lim_b hg (p := p)
  have hn := hg.1.2.2.2.2.1
  refine ⟨rfl, ?_⟩
  have r : rdl E [] = 1000000 := by
    unfold rdl
    rw [if_neg (by simp only [List.length_nil]; omega)]
  unfold cl
  rw [r, if_neg (by omega)]
theorem lin_cost {E : Ev} (hg : s_ok E) {p : Nat} : ∀ w ∈ lin E p, 1 ≤ s_cost E w := fun w hw => by
  have h := lin_mem.mp hw
  exact (s_cost_b (hg.2.1 w (by have := hg.1.2.1; omega))).1
/-- the class's way -/
theorem bst_isB {E : Ev} (hg : s_ok E) {p : Nat} : isB E p ([] :: (exw E (lim E p) (E.1 1 1).toNat (lin E p) 0 []).map Prod.fst) (bst E p) := by
  have key : ∀ (X : List (List Nat × Int)) (s : Int × Nat × Int), (∀ x ∈ X, x ∈ exw E (lim E p) (E.1 1 1).toNat (lin E p) 0 []) → X.foldl (stp E p) s = (X.map Prod.fst).foldl (stB E p) s := by
    intro X
    induction X with
    | nil => intro s _; rfl
    | cons x r ih =>
      intro s hx
      obtain ⟨a, a1, a2, a3, a4, a5, a6⟩ := exw_snd _ _ _ _ x List.Pairwise.nil (hx x (List.mem_cons_self ..))
      rw [List.nil_append] at a1
      have hc : ∀ w ∈ x.1, 1 ≤ s_cost E w := fun w hw => lin_cost hg w (a2.subset (by rw [← a1]; exact hw))
      obtain ⟨e1, e2⟩ := ex_cl hg (p := p) (l := x.1) (t := x.2) (by rw [a1]; exact a3) (by rw [a4, a1, Int.zero_add]) a5 hc
      have e : stp E p s x = stB E p s x.1 := by
        unfold stp stB
        rw [e1, e2]
      rw [List.map_cons, List.foldl_cons, List.foldl_cons, e]
      exact ih _ (fun y hy => hx y (List.mem_cons_of_mem _ hy))
  unfold bst
  rw [key _ _ (fun _ hx => hx)]
  have h0 : isB E p [[]] (0, 0, lim E p) := by
    obtain ⟨v1, v2⟩ := val_nil hg (p := p)
    refine ⟨⟨[], List.mem_singleton.mpr rfl, by rw [v1, v2]; rfl⟩, fun m hm => ?_⟩
    rw [List.mem_singleton] at hm
    subst hm
    exact Or.inr ⟨v1, Nat.zero_le _⟩
  exact isB_fold _ [[]] _ h0
/-- the reference's way -/
theorem dcl_of {E : Ev} : ∀ {l : List Nat} {x y : Nat}, l.Pairwise (dcl E) → x ∈ l → y ∈ l → x ≠ y → E.1 4 x ≠ E.1 4 y
  | [], _, _, _, hx, _, _ => by cases hx
  | a :: r, x, y, hd, hx, hy, hn => by
    have h1 := List.pairwise_cons.mp hd
    rcases List.mem_cons.mp hx with z | z
    · rcases List.mem_cons.mp hy with z2 | z2
      · exact absurd (z.trans z2.symm) hn
      · subst z; exact h1.1 y z2
    · rcases List.mem_cons.mp hy with z2 | z2
      · subst z2; exact fun e => h1.1 x z e.symm
      · exact dcl_of h1.2 z z2 hn
def skw (f : Nat → List Nat) (cond : Nat → Bool) (b : List Nat) : Nat → List Nat
  | 0 => b
  | n + 1 => skw f cond b n ++ (if cond n = true then f n else [])
theorem skw_mem {f : Nat → List Nat} {cond : Nat → Bool} {b : List Nat} {S : Nat} : ∀ n, S ∈ skw f cond b n ↔ S ∈ b ∨ ∃ w, w < n ∧ cond w = true ∧ S ∈ f w
  | 0 => by simp [skw]
  | n + 1 => by
    unfold skw
    rw [List.mem_append, skw_mem n]
    constructor
    · rintro ((h | ⟨w, a, b, c⟩) | h)
      · exact Or.inl h
      · exact Or.inr ⟨w, by omega, b, c⟩
      · by_cases hc : cond n = true
        · rw [if_pos hc] at h
          exact Or.inr ⟨n, by omega, hc, h⟩
        · rw [if_neg hc] at h; cases h
    · rintro (h | ⟨w, a, b, c⟩)
      · exact Or.inl (Or.inl h)
      · by_cases hw : w = n
        · subst hw
          right
          rw [if_pos b]
          exact c
        · exact Or.inl (Or.inr ⟨w, by omega, b, c⟩)
def skc (E : Ev) (p : Nat) (c : Nat) (w : Nat) : Bool := decide (E.1 4 w = (c : Int)) && s_can E p w
def sk (E : Ev) (p : Nat) : Nat → Nat → Nat → List Nat
  | 0, _, set => [set]
  | k + 1, c, set => skw (fun w => sk E p k (c + 1) (set ||| 2 ^ w)) (skc E p c) (sk E p k (c + 1) set) (E.1 0 1).toNat
theorem sk_snd {E : Ev} {p : Nat} {S : Nat} : ∀ (k c set : Nat), S ∈ sk E p k c set → ∃ a : List Nat, S = set ||| bts a ∧ (∀ w ∈ a, (s_can E p w = true ∧ w < (E.1 0 1).toNat) ∧ (c : Int) ≤ E.1 4 w ∧ E.1 4 w < (c : Int) + (k : Int)) ∧ a.Pairwise (dcl E)
  | 0, c, set, h => by
    rw [sk, List.mem_singleton] at h
    exact ⟨[], by rw [h]; simp [bts], fun w hw => absurd hw List.not_mem_nil, List.Pairwise.nil⟩
  | k + 1, c, set, h => by
    rw [sk, skw_mem] at h
    rcases h with h | ⟨w, h1, h2, h3⟩
    · obtain ⟨a, a1, a2, a3⟩ := sk_snd k (c + 1) set h
      exact ⟨a, a1, fun v hv => ⟨(a2 v hv).1, by have := (a2 v hv).2; omega⟩, a3⟩
    · obtain ⟨a, a1, a2, a3⟩ := sk_snd k (c + 1) _ h3
      unfold skc at h2
      rw [Bool.and_eq_true, decide_eq_true_eq] at h2
      refine ⟨w :: a, by rw [a1, Nat.or_assoc]; rfl, fun v hv => ?_, List.pairwise_cons.mpr ⟨fun v hv => ?_, a3⟩⟩
      · rcases List.mem_cons.mp hv with z | z
        · subst z; exact ⟨⟨h2.2, h1⟩, by omega⟩
        · exact ⟨(a2 v z).1, by have := (a2 v z).2; omega⟩
      · have := (a2 v hv).2
        unfold dcl
        omega
theorem sk_cmp {E : Ev} {p : Nat} : ∀ (k c set : Nat) (a : List Nat), (∀ w ∈ a, (s_can E p w = true ∧ w < (E.1 0 1).toNat) ∧ (c : Int) ≤ E.1 4 w ∧ E.1 4 w < (c : Int) + (k : Int)) → a.Pairwise (dcl E) → set ||| bts a ∈ sk E p k c set
  | 0, c, set, a, ha, _ => by
    cases a with
    | nil => simp [sk, bts]
    | cons w r => have := (ha w (List.mem_cons_self ..)).2; omega
  | k + 1, c, set, a, ha, hd => by
    rw [sk, skw_mem]
    by_cases hw : ∃ w ∈ a, E.1 4 w = (c : Int)
    · obtain ⟨w, w1, w2⟩ := hw
      right
      refine ⟨w, (ha w w1).1.2, by unfold skc; rw [Bool.and_eq_true, decide_eq_true_eq]; exact ⟨w2, (ha w w1).1.1⟩, ?_⟩
      have e : bts a = 2 ^ w ||| bts (a.erase w) := by
        refine Nat.eq_of_testBit_eq (fun j => ?_)
        rw [Nat.testBit_or, Nat.testBit_two_pow, bts_bit, bts_bit]
        by_cases hj : j = w
        · subst hj; simp [w1]
        · have h2 : ¬ w = j := fun z => hj z.symm
          simp [h2, List.mem_erase_of_ne hj]
      rw [e, ← Nat.or_assoc]
      refine sk_cmp k (c + 1) _ (a.erase w) (fun v hv => ?_) (hd.sublist List.erase_sublist)
      have hva := List.mem_of_mem_erase hv
      have h3 := ha v hva
      have hnd : a.Nodup := hd.imp (fun h z => h (by rw [z]))
      have hvw : v ≠ w := ((List.Nodup.mem_erase_iff hnd).mp hv).1
      have hne : E.1 4 v ≠ E.1 4 w := dcl_of hd hva w1 hvw
      exact ⟨h3.1, by omega⟩
    · left
      refine sk_cmp k (c + 1) set a (fun v hv => ⟨(ha v hv).1, ?_⟩) hd
      have h3 := (ha v hv).2
      have : E.1 4 v ≠ (c : Int) := fun z => hw ⟨v, hv, z⟩
      omega
def lf (E : Ev) (p S : Nat) : List Nat := (lin E p).filter (fun w => S.testBit w)
theorem sub_lf {a l : List Nat} (h : List.Sublist a l) : l.Nodup → l.filter (fun w => (bts a).testBit w) = a := by
  have key : ∀ (b : List Nat), List.Sublist a l → l.Nodup → (∀ w ∈ l, w ∈ b ↔ w ∈ a) → l.filter (fun w => (bts b).testBit w) = a := by
    intro b hs
    clear h
    induction hs generalizing b with
    | slnil => intro _ _; rfl
    | cons w hs ih =>
      intro hn hb
      have hn' := List.nodup_cons.mp hn
      have hw : ¬ w ∈ b := fun z => hn'.1 (hs.subset ((hb w (List.mem_cons_self ..)).mp z))
      rw [List.filter_cons_of_neg (by rw [bts_bit]; simp [hw])]
      exact ih b hn'.2 (fun v hv => hb v (List.mem_cons_of_mem _ hv))
    | cons_cons w hs ih =>
      intro hn hb
      have hn' := List.nodup_cons.mp hn
      have hw : w ∈ b := (hb w (List.mem_cons_self ..)).mpr (List.mem_cons_self ..)
      rw [List.filter_cons_of_pos (by rw [bts_bit]; simp [hw])]
      congr 1
      refine ih b hn'.2 (fun v hv => ?_)
      rw [hb v (List.mem_cons_of_mem _ hv), List.mem_cons]
      have hvw : v ≠ w := fun z => hn'.1 (z ▸ hv)
      constructor
      · rintro (z | z)
        · exact absurd z hvw
        · exact z
      · exact Or.inr
  intro hn
  exact key a h hn (fun w _ => Iff.rfl)
theorem sk_lf {E : Ev} (hg : s_ok E) {p S : Nat} (h : S ∈ sk E p (E.1 0 0).toNat 0 0) : vld E p (lf E p S) ∧ bts (lf E p S) = S ∧ List.Sublist (lf E p S) (lin E p) := by
  obtain ⟨a, a1, a2, a3⟩ := sk_snd _ _ _ h
  rw [Nat.zero_or] at a1
  have hm : ∀ w, w ∈ lf E p S ↔ w ∈ a := fun w => by
    unfold lf
    rw [List.mem_filter, a1, bts_bit, decide_eq_true_eq]
    constructor
    · exact fun z => z.2
    · exact fun z => ⟨lin_mem.mpr ⟨(a2 w z).1.2, (a2 w z).1.1⟩, z⟩
  have hsub : List.Sublist (lf E p S) (lin E p) := List.filter_sublist
  refine ⟨lin_vld hsub ?_ hg, ?_, hsub⟩
  · have hnd : (lf E p S).Nodup := lin_nd.sublist hsub
    exact List.Pairwise.imp_of_mem (fun {x y} hx hy hxy => dcl_of a3 ((hm x).mp hx) ((hm y).mp hy) hxy) hnd
  · rw [a1]
    refine Nat.eq_of_testBit_eq (fun j => ?_)
    rw [bts_bit, bts_bit]
    exact decide_eq_decide.mpr (by rw [← a1]; exact hm j)
def stR (E : Ev) (p : Nat) (s : Int × Nat × Int) (S : Nat) : Int × Nat × Int := if s.1 = -1 ∨ s.1 < val E p (lf E p S) ∨ (val E p (lf E p S) = s.1 ∧ S < s.2.1) then (val E p (lf E p S), S, cl E p (lf E p S)) else s
theorem val_nn {E : Ev} (hg : s_ok E) {p : Nat} {l : List Nat} : 0 ≤ val E p l := sm_nn _ (fun w _ => (gv_b hg).1)
theorem stR_isB {E : Ev} (hg : s_ok E) {p : Nat} : ∀ (Ss : List Nat) (D : List (List Nat)) (s : Int × Nat × Int), (∀ S ∈ Ss, S ∈ sk E p (E.1 0 0).toNat 0 0) → ((D = [] ∧ s.1 = -1) ∨ isB E p D s) → (D ++ Ss.map (lf E p) = [] ∧ (Ss.foldl (stR E p) s).1 = -1) ∨ isB E p (D ++ Ss.map (lf E p)) (Ss.foldl (stR E p) s)
  | [], D, s, _, h => by rw [List.map_nil, List.append_nil]; exact h
  | S :: r, D, s, hS, h => by
    have h1 := sk_lf hg (hS S (List.mem_cons_self ..))
    have hv := val_nn hg (p := p) (l := lf E p S)
    have hstep : isB E p (D ++ [lf E p S]) (stR E p s S) := by
      rcases h with ⟨rfl, h0⟩ | h
      · unfold stR
        rw [if_pos (Or.inl h0), List.nil_append]
        refine ⟨⟨lf E p S, List.mem_singleton.mpr rfl, by rw [h1.2.1]⟩, fun m hm => ?_⟩
        rw [List.mem_singleton] at hm
        subst hm
        exact Or.inr ⟨rfl, by rw [h1.2.1]; exact Nat.le_refl _⟩
      · have hne : s.1 ≠ -1 := by
          obtain ⟨⟨l, -, e⟩, -⟩ := h
          have := val_nn hg (p := p) (l := l)
          rw [e]
          show val E p l ≠ -1
          omega
        have e : stR E p s S = stB E p s (lf E p S) := by
          unfold stR stB
          rw [h1.2.1]
          by_cases hc : s.1 < val E p (lf E p S) ∨ (val E p (lf E p S) = s.1 ∧ S < s.2.1)
          · rw [if_pos (Or.inr hc), if_pos hc]
          · rw [if_neg (fun z => z.elim hne hc), if_neg hc]
        rw [e]
        exact isB_st h
    have := stR_isB hg r (D ++ [lf E p S]) (stR E p s S) (fun T hT => hS T (List.mem_cons_of_mem _ hT)) (Or.inr hstep)
    rw [List.append_assoc] at this
    exact this
theorem sk_ne {E : Ev} {p : Nat} (k c set : Nat) : set ∈ sk E p k c set := by
  have := sk_cmp (E := E) (p := p) k c set [] (fun w hw => by cases hw) List.Pairwise.nil
  simpa [bts] using this
/-- both ways come to the same -/
theorem ref_bst {E : Ev} (hg : s_ok E) {p : Nat} {s : Int × Nat × Int} (hs : s.1 = -1) : (sk E p (E.1 0 0).toNat 0 0).foldl (stR E p) s = bst E p := by
  have h1 := bst_isB hg (p := p)
  have h2 := stR_isB hg (p := p) (sk E p (E.1 0 0).toNat 0 0) [] s (fun _ h => h) (Or.inl ⟨rfl, hs⟩)
  rw [List.nil_append] at h2
  have h2 : isB E p ((sk E p (E.1 0 0).toNat 0 0).map (lf E p)) ((sk E p (E.1 0 0).toNat 0 0).foldl (stR E p) s) := by
    rcases h2 with ⟨z, -⟩ | z
    · have := List.map_eq_nil_iff.mp z
      have hm := sk_ne (E := E) (p := p) (E.1 0 0).toNat 0 0
      rw [this] at hm
      cases hm
    · exact z
  obtain ⟨⟨l1, m1, e1⟩, d1⟩ := h1
  obtain ⟨⟨l2, m2, e2⟩, d2⟩ := h2
  have hlin : ∀ l ∈ ([] : List Nat) :: (exw E (lim E p) (E.1 1 1).toNat (lin E p) 0 []).map Prod.fst, List.Sublist l (lin E p) ∧ l.Pairwise (dcl E) := by
    intro l hl
    rcases List.mem_cons.mp hl with z | z
    · subst z; exact ⟨List.nil_sublist _, List.Pairwise.nil⟩
    · obtain ⟨x, x1, x2⟩ := List.mem_map.mp z
      obtain ⟨a, a1, a2, a3, a4, a5, a6⟩ := exw_snd _ _ _ _ x List.Pairwise.nil x1
      rw [List.nil_append] at a1
      rw [← x2]
      exact ⟨by rw [a1]; exact a2, a6⟩
  -- the class's sheets stand among the reference's
  have hin : ∀ l ∈ ([] : List Nat) :: (exw E (lim E p) (E.1 1 1).toNat (lin E p) 0 []).map Prod.fst, l ∈ (sk E p (E.1 0 0).toNat 0 0).map (lf E p) := by
    intro l hl
    obtain ⟨s1, s2⟩ := hlin l hl
    refine List.mem_map.mpr ⟨bts l, ?_, sub_lf s1 lin_nd⟩
    have := sk_cmp (E := E) (p := p) (E.1 0 0).toNat 0 0 l (fun w hw => by
      have h := lin_mem.mp (s1.subset hw)
      have hw2 := (hg.2.1 w (by have := hg.1.2.1; omega)).2.2.1
      have := hg.1.1
      exact ⟨⟨h.2, h.1⟩, by omega⟩) s2
    rw [Nat.zero_or] at this
    exact this
  -- each of the reference's is worth as much as one of the class's with no greater bits
  have hdm : ∀ m ∈ (sk E p (E.1 0 0).toNat 0 0).map (lf E p), ∃ l ∈ ([] : List Nat) :: (exw E (lim E p) (E.1 1 1).toNat (lin E p) 0 []).map Prod.fst, val E p l = val E p m ∧ bts l ≤ bts m := by
    intro m hm
    obtain ⟨S, hS, rfl⟩ := List.mem_map.mp hm
    obtain ⟨v1, v2, v3⟩ := sk_lf hg hS
    obtain ⟨q1, q2, q3, q4, q5⟩ := prn_ok hg (p := p) (l := lf E p S) (fun w hw => lin_cost hg w (v3.subset hw))
    refine ⟨prn E p (lf E p S), ?_, q2, bts_le (fun w hw => q5.subset hw)⟩
    by_cases hn : prn E p (lf E p S) = []
    · rw [hn]; exact List.mem_cons_self ..
    · refine List.mem_cons_of_mem _ (List.mem_map.mpr ⟨(prn E p (lf E p S), sm (s_cost E) (prn E p (lf E p S))), ?_, rfl⟩)
      have hx := exw_cmp (E := E) (L := lim E p) (lin E p) (E.1 1 1).toNat 0 [] (prn E p (lf E p S)) (lin_cost hg) ((lnp_sorted _).imp (fun h => by unfold lt2 at h; omega)) (q5.trans v3) hn q3 (by omega) (by rw [List.nil_append]; exact v1.2.sublist q5)
      rw [List.nil_append, Int.zero_add] at hx
      exact hx
  have g1 := d2 l1 (hin l1 m1)
  obtain ⟨l', m', w1, w2⟩ := hdm l2 m2
  have g2 := d1 l' m'
  rw [e2] at g1
  rw [e1] at g2
  have g1' : val E p l1 < val E p l2 ∨ (val E p l1 = val E p l2 ∧ bts l2 ≤ bts l1) := g1
  have g2' : val E p l' < val E p l1 ∨ (val E p l' = val E p l1 ∧ bts l1 ≤ bts l') := g2
  have eb : bts l1 = bts l2 := by omega
  have el : l1 = l2 := by
    have s1 := (hlin l1 m1).1
    obtain ⟨S, hS, hl2⟩ := List.mem_map.mp m2
    obtain ⟨v1, v2, v3⟩ := sk_lf hg hS
    rw [hl2] at v3
    rw [← sub_lf s1 lin_nd, eb, sub_lf v3 lin_nd]
  rw [e1, e2, el]
