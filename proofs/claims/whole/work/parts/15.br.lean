/-! branches over whole numbers -/
theorem br_y {c P Q : Prop} (h : c) (p : P) : (c → P) ∧ (¬ c → Q) := ⟨fun _ => p, fun q => absurd h q⟩
theorem br_n {c P Q : Prop} (h : ¬ c) (p : Q) : (c → P) ∧ (¬ c → Q) := ⟨fun q => absurd q h, fun _ => p⟩
section BR
variable {a b : Int} {P Q : Prop}
theorem br_eq (ha : -2147483648 ≤ a ∧ a < 2147483648) (hb : -2147483648 ≤ b ∧ b < 2147483648) (t : a = b → P) (f : ¬ a = b → Q) : (en_cmp .eq a b → P) ∧ (¬ en_cmp .eq a b → Q) := by
  show (en_wr a = en_wr b → P) ∧ (¬ en_wr a = en_wr b → Q)
  rw [en_wr_of ha, en_wr_of hb]; exact ⟨t, f⟩
theorem br_ne (ha : -2147483648 ≤ a ∧ a < 2147483648) (hb : -2147483648 ≤ b ∧ b < 2147483648) (t : ¬ a = b → P) (f : a = b → Q) : (en_cmp .ne a b → P) ∧ (¬ en_cmp .ne a b → Q) := by
  show (¬ en_wr a = en_wr b → P) ∧ (¬ ¬ en_wr a = en_wr b → Q)
  rw [en_wr_of ha, en_wr_of hb]; exact ⟨t, fun q => f (Decidable.of_not_not q)⟩
theorem br_lt (ha : -2147483648 ≤ a ∧ a < 2147483648) (hb : -2147483648 ≤ b ∧ b < 2147483648) (t : a < b → P) (f : b ≤ a → Q) : (en_cmp .lt a b → P) ∧ (¬ en_cmp .lt a b → Q) := by
  show (en_wr a < en_wr b → P) ∧ (¬ en_wr a < en_wr b → Q)
  rw [en_wr_of ha, en_wr_of hb]; exact ⟨t, fun q => f (by omega)⟩
theorem br_ge (ha : -2147483648 ≤ a ∧ a < 2147483648) (hb : -2147483648 ≤ b ∧ b < 2147483648) (t : b ≤ a → P) (f : a < b → Q) : (en_cmp .ge a b → P) ∧ (¬ en_cmp .ge a b → Q) := by
  show (en_wr b ≤ en_wr a → P) ∧ (¬ en_wr b ≤ en_wr a → Q)
  rw [en_wr_of ha, en_wr_of hb]; exact ⟨t, fun q => f (by omega)⟩
theorem br_gt (ha : -2147483648 ≤ a ∧ a < 2147483648) (hb : -2147483648 ≤ b ∧ b < 2147483648) (t : b < a → P) (f : a ≤ b → Q) : (en_cmp .gt a b → P) ∧ (¬ en_cmp .gt a b → Q) := by
  show (en_wr b < en_wr a → P) ∧ (¬ en_wr b < en_wr a → Q)
  rw [en_wr_of ha, en_wr_of hb]; exact ⟨t, fun q => f (by omega)⟩
theorem br_le (ha : -2147483648 ≤ a ∧ a < 2147483648) (hb : -2147483648 ≤ b ∧ b < 2147483648) (t : a ≤ b → P) (f : b < a → Q) : (en_cmp .le a b → P) ∧ (¬ en_cmp .le a b → Q) := by
  show (en_wr a ≤ en_wr b → P) ∧ (¬ en_wr a ≤ en_wr b → Q)
  rw [en_wr_of ha, en_wr_of hb]; exact ⟨t, fun q => f (by omega)⟩
theorem br_eq_y (ha : -2147483648 ≤ a ∧ a < 2147483648) (hb : -2147483648 ≤ b ∧ b < 2147483648) (h : a = b) (t : P) : (en_cmp .eq a b → P) ∧ (¬ en_cmp .eq a b → Q) := br_eq ha hb (fun _ => t) (fun q => absurd h q)
theorem br_eq_n (ha : -2147483648 ≤ a ∧ a < 2147483648) (hb : -2147483648 ≤ b ∧ b < 2147483648) (h : ¬ a = b) (t : Q) : (en_cmp .eq a b → P) ∧ (¬ en_cmp .eq a b → Q) := br_eq ha hb (fun q => absurd q h) (fun _ => t)
theorem br_ne_y (ha : -2147483648 ≤ a ∧ a < 2147483648) (hb : -2147483648 ≤ b ∧ b < 2147483648) (h : ¬ a = b) (t : P) : (en_cmp .ne a b → P) ∧ (¬ en_cmp .ne a b → Q) := br_ne ha hb (fun _ => t) (fun q => absurd q h)
theorem br_ne_n (ha : -2147483648 ≤ a ∧ a < 2147483648) (hb : -2147483648 ≤ b ∧ b < 2147483648) (h : a = b) (t : Q) : (en_cmp .ne a b → P) ∧ (¬ en_cmp .ne a b → Q) := br_ne ha hb (fun q => absurd h q) (fun _ => t)
theorem br_lt_y (ha : -2147483648 ≤ a ∧ a < 2147483648) (hb : -2147483648 ≤ b ∧ b < 2147483648) (h : a < b) (t : P) : (en_cmp .lt a b → P) ∧ (¬ en_cmp .lt a b → Q) := br_lt ha hb (fun _ => t) (fun q => absurd h (Int.not_lt.mpr q))
theorem br_lt_n (ha : -2147483648 ≤ a ∧ a < 2147483648) (hb : -2147483648 ≤ b ∧ b < 2147483648) (h : b ≤ a) (t : Q) : (en_cmp .lt a b → P) ∧ (¬ en_cmp .lt a b → Q) := br_lt ha hb (fun q => absurd q (Int.not_lt.mpr h)) (fun _ => t)
theorem br_ge_y (ha : -2147483648 ≤ a ∧ a < 2147483648) (hb : -2147483648 ≤ b ∧ b < 2147483648) (h : b ≤ a) (t : P) : (en_cmp .ge a b → P) ∧ (¬ en_cmp .ge a b → Q) := br_ge ha hb (fun _ => t) (fun q => absurd q (Int.not_lt.mpr h))
theorem br_ge_n (ha : -2147483648 ≤ a ∧ a < 2147483648) (hb : -2147483648 ≤ b ∧ b < 2147483648) (h : a < b) (t : Q) : (en_cmp .ge a b → P) ∧ (¬ en_cmp .ge a b → Q) := br_ge ha hb (fun q => absurd h (Int.not_lt.mpr q)) (fun _ => t)
theorem br_gt_y (ha : -2147483648 ≤ a ∧ a < 2147483648) (hb : -2147483648 ≤ b ∧ b < 2147483648) (h : b < a) (t : P) : (en_cmp .gt a b → P) ∧ (¬ en_cmp .gt a b → Q) := br_gt ha hb (fun _ => t) (fun q => absurd h (Int.not_lt.mpr q))
theorem br_gt_n (ha : -2147483648 ≤ a ∧ a < 2147483648) (hb : -2147483648 ≤ b ∧ b < 2147483648) (h : a ≤ b) (t : Q) : (en_cmp .gt a b → P) ∧ (¬ en_cmp .gt a b → Q) := br_gt ha hb (fun q => absurd q (Int.not_lt.mpr h)) (fun _ => t)
theorem br_le_y (ha : -2147483648 ≤ a ∧ a < 2147483648) (hb : -2147483648 ≤ b ∧ b < 2147483648) (h : a ≤ b) (t : P) : (en_cmp .le a b → P) ∧ (¬ en_cmp .le a b → Q) := br_le ha hb (fun _ => t) (fun q => absurd q (Int.not_lt.mpr h))
theorem br_le_n (ha : -2147483648 ≤ a ∧ a < 2147483648) (hb : -2147483648 ≤ b ∧ b < 2147483648) (h : b < a) (t : Q) : (en_cmp .le a b → P) ∧ (¬ en_cmp .le a b → Q) := br_le ha hb (fun q => absurd h (Int.not_lt.mpr q)) (fun _ => t)
end BR
theorem tb_i {a lo : Int} {K : Nat → Prop} {d : Nat} {ts : List Nat} (ha : -2147483648 ≤ a ∧ a < 2147483648) (h : en_tb a lo K d ts) : en_tb (en_wr a) lo K d ts := by
  rw [en_wr_of ha]; exact h
theorem en_Ct_t {h bu k : Nat} {as : List AV} {M M1 : Mm} {c : Prop} [Decidable c] {post : Option AV → Mm → Prop} (hc : en_Ct h bu k as M (fun r M' => r = some (.inl (if c then 1 else 0)) ∧ M' = M1)) (q : c) (hp : post (some (.inl 1)) M1) : en_Ct h bu k as M post := en_Ct_mono hc (fun r M' hq => by rw [hq.1, hq.2, if_pos q]; exact hp)
theorem en_Ct_f {h bu k : Nat} {as : List AV} {M M1 : Mm} {c : Prop} [Decidable c] {post : Option AV → Mm → Prop} (hc : en_Ct h bu k as M (fun r M' => r = some (.inl (if c then 1 else 0)) ∧ M' = M1)) (q : ¬ c) (hp : post (some (.inl 0)) M1) : en_Ct h bu k as M post := en_Ct_mono hc (fun r M' hq => by rw [hq.1, hq.2, if_neg q]; exact hp)
/-- forgetting locals -/
def en_drop : List Bool → AL → AL
  | true :: bs, v :: ls => v :: en_drop bs ls
  | false :: bs, _ :: ls => none :: en_drop bs ls
  | [], ls => ls
  | _, [] => []
theorem en_drop_len : ∀ (bs : List Bool) (ls : AL), (en_drop bs ls).length = ls.length
  | [], _ => rfl
  | true :: bs, [] => rfl
  | false :: bs, [] => rfl
  | true :: bs, v :: ls => by
    show (en_drop bs ls).length + 1 = ls.length + 1
    rw [en_drop_len bs ls]
  | false :: bs, v :: ls => by
    show (en_drop bs ls).length + 1 = ls.length + 1
    rw [en_drop_len bs ls]
theorem en_drop_at : ∀ (bs : List Bool) (ls : AL) (i : Nat) (v : AV), (en_drop bs ls).getD i none = some v → ls.getD i none = some v
  | [], _, _, _, h => h
  | true :: bs, [], _, _, h => h
  | false :: bs, [], _, _, h => h
  | true :: bs, w :: ls, 0, v, h => h
  | true :: bs, w :: ls, i + 1, v, h => en_drop_at bs ls i v h
  | false :: bs, w :: ls, 0, v, h => by cases h
  | false :: bs, w :: ls, i + 1, v, h => en_drop_at bs ls i v h
theorem en_AW_drop (bs : List Bool) {h bu0 k : Nat} {post : Option AV → Mm → Prop} {pc : Nat} {ls : AL} {st : List AV} {M : Mm} {bu : Nat} (hs : en_AW h bu0 k post pc (en_drop bs ls) st M bu) : en_AW h bu0 k post pc ls st M bu := by
  intro p l e s m args below meth c ad0 cd D cs M0 X hret hlocks hb ad H locs lsA I
  exact hs p l e s m args below meth c ad0 cd D cs M0 X hret hlocks hb ad H locs lsA ⟨I.1, I.2.1, by rw [en_drop_len]; exact I.2.2.1, fun i v hv => I.2.2.2.1 i v (en_drop_at bs ls i v hv), I.2.2.2.2⟩
theorem it_nn {x : Int} (h : 0 ≤ x) : x = ((x.toNat : Nat) : Int) := by omega
theorem en_AW_ls {h bu0 k : Nat} {post : Option AV → Mm → Prop} {pc : Nat} {ls ls' : AL} {st : List AV} {M : Mm} {bu : Nat} (he : ls = ls') (hs : en_AW h bu0 k post pc ls' st M bu) : en_AW h bu0 k post pc ls st M bu := by
  rw [he]; exact hs
theorem wl_of {x : Int} (h : -9223372036854775808 ≤ x ∧ x < 9223372036854775808) : en_wl x = x := Int64.toInt_ofInt_of_le (by omega) (by omega)
theorem wl_wr {x : Int} (h : -2147483648 ≤ x ∧ x < 2147483648) : en_wl (en_wr x) = x := by
  rw [en_wr_of h]; exact wl_of (by omega)
section BRL
variable {a b a' b' : Int} {P Q : Prop}
theorem lc_lt (ha : en_wl a = a') (hb : en_wl b = b') (t : a' < b' → P) (f : b' ≤ a' → Q) : (en_cmp .lt (en_lcmp a b) 0 → P) ∧ (¬ en_cmp .lt (en_lcmp a b) 0 → Q) := by
  unfold en_lcmp
  rw [ha, hb]
  by_cases h1 : b' < a'
  · rw [if_pos h1]; exact br_lt_n (by decide) (by decide) (by decide) (f (by omega))
  · rw [if_neg h1]
    by_cases h2 : a' = b'
    · rw [if_pos h2]; exact br_lt_n (by decide) (by decide) (by decide) (f (by omega))
    · rw [if_neg h2]; exact br_lt_y (by decide) (by decide) (by decide) (t (by omega))
theorem lc_gt (ha : en_wl a = a') (hb : en_wl b = b') (t : b' < a' → P) (f : a' ≤ b' → Q) : (en_cmp .gt (en_lcmp a b) 0 → P) ∧ (¬ en_cmp .gt (en_lcmp a b) 0 → Q) := by
  unfold en_lcmp
  rw [ha, hb]
  by_cases h1 : b' < a'
  · rw [if_pos h1]; exact br_gt_y (by decide) (by decide) (by decide) (t (by omega))
  · rw [if_neg h1]
    by_cases h2 : a' = b'
    · rw [if_pos h2]; exact br_gt_n (by decide) (by decide) (by decide) (f (by omega))
    · rw [if_neg h2]; exact br_gt_n (by decide) (by decide) (by decide) (f (by omega))
theorem lc_eq (ha : en_wl a = a') (hb : en_wl b = b') (t : a' = b' → P) (f : ¬ a' = b' → Q) : (en_cmp .eq (en_lcmp a b) 0 → P) ∧ (¬ en_cmp .eq (en_lcmp a b) 0 → Q) := by
  unfold en_lcmp
  rw [ha, hb]
  by_cases h1 : b' < a'
  · rw [if_pos h1]; exact br_eq_n (by decide) (by decide) (by decide) (f (by omega))
  · rw [if_neg h1]
    by_cases h2 : a' = b'
    · rw [if_pos h2]; exact br_eq_y (by decide) (by decide) (by decide) (t h2)
    · rw [if_neg h2]; exact br_eq_n (by decide) (by decide) (by decide) (f h2)
theorem lc_ne (ha : en_wl a = a') (hb : en_wl b = b') (t : ¬ a' = b' → P) (f : a' = b' → Q) : (en_cmp .ne (en_lcmp a b) 0 → P) ∧ (¬ en_cmp .ne (en_lcmp a b) 0 → Q) := by
  unfold en_lcmp
  rw [ha, hb]
  by_cases h1 : b' < a'
  · rw [if_pos h1]; exact br_ne_y (by decide) (by decide) (by decide) (t (by omega))
  · rw [if_neg h1]
    by_cases h2 : a' = b'
    · rw [if_pos h2]; exact br_ne_n (by decide) (by decide) (by decide) (f h2)
    · rw [if_neg h2]; exact br_ne_y (by decide) (by decide) (by decide) (t h2)
theorem lc_ge (ha : en_wl a = a') (hb : en_wl b = b') (t : b' ≤ a' → P) (f : a' < b' → Q) : (en_cmp .ge (en_lcmp a b) 0 → P) ∧ (¬ en_cmp .ge (en_lcmp a b) 0 → Q) := by
  unfold en_lcmp
  rw [ha, hb]
  by_cases h1 : b' < a'
  · rw [if_pos h1]; exact br_ge_y (by decide) (by decide) (by decide) (t (by omega))
  · rw [if_neg h1]
    by_cases h2 : a' = b'
    · rw [if_pos h2]; exact br_ge_y (by decide) (by decide) (by decide) (t (by omega))
    · rw [if_neg h2]; exact br_ge_n (by decide) (by decide) (by decide) (f (by omega))
end BRL
theorem en_AW_M {h bu0 k : Nat} {post : Option AV → Mm → Prop} {pc : Nat} {ls : AL} {st : List AV} {M M1 : Mm} {bu : Nat} (he : M = M1) (hs : en_AW h bu0 k post pc ls st M1 bu) : en_AW h bu0 k post pc ls st M bu := by
  rw [he]; exact hs
