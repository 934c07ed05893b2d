/-! branches over whole numbers -/
theorem br_y {c P Q : Prop} (h : c) (p : P) : (c → P) ∧ (¬ c → Q) := ⟨fun _ => p, fun q => absurd h q⟩
theorem br_n {c P Q : Prop} (h : ¬ c) (p : Q) : (c → P) ∧ (¬ c → Q) := ⟨fun q => absurd q h, fun _ => p⟩
section BR
variable {a b : Int} {P Q : Prop}
theorem br_eq (ha : -2147483648 ≤ a ∧ a < 2147483648) (hb : -2147483648 ≤ b ∧ b < 2147483648) (t : a = b → P) (f : ¬ a = b → Q) : (en_cmp .eq a b → P) ∧ (¬ en_cmp .eq a b → Q) := by
  show (en_wr a = en_wr b → P) ∧ (¬ en_wr a = en_wr b → Q)
  rw [en_wr_of ha, en_wr_of hb]; exact ⟨t, f⟩
theorem br_ne (ha : -2147483648 ≤ a ∧ a < 2147483648) (hb : -2147483648 ≤ b ∧ b < 2147483648) (t : ¬ a = b → P) (f : a = b → Q) : (en_cmp .ne a b → P) ∧ (¬ en_cmp .ne a b → Q) := by
  show (¬ en_wr a = en_wr b → P) ∧ (¬ ¬ en_wr a = en_wr b → Q)
  rw [en_wr_of ha, en_wr_of hb]; exact ⟨t, fun q => f (Decidable.of_not_not q)⟩
theorem br_lt (ha : -2147483648 ≤ a ∧ a < 2147483648) (hb : -2147483648 ≤ b ∧ b < 2147483648) (t : a < b → P) (f : b ≤ a → Q) : (en_cmp .lt a b → P) ∧ (¬ en_cmp .lt a b → Q) := by
  show (en_wr a < en_wr b → P) ∧ (¬ en_wr a < en_wr b → Q)
  rw [en_wr_of ha, en_wr_of hb]; exact ⟨t, fun q => f (by omega)⟩
theorem br_ge (ha : -2147483648 ≤ a ∧ a < 2147483648) (hb : -2147483648 ≤ b ∧ b < 2147483648) (t : b ≤ a → P) (f : a < b → Q) : (en_cmp .ge a b → P) ∧ (¬ en_cmp .ge a b → Q) := by
  show (en_wr b ≤ en_wr a → P) ∧ (¬ en_wr b ≤ en_wr a → Q)
  rw [en_wr_of ha, en_wr_of hb]; exact ⟨t, fun q => f (by omega)⟩
theorem br_gt (ha : -2147483648 ≤ a ∧ a < 2147483648) (hb : -2147483648 ≤ b ∧ b < 2147483648) (t : b < a → P) (f : a ≤ b → Q) : (en_cmp .gt a b → P) ∧ (¬ en_cmp .gt a b → Q) := by
  show (en_wr b < en_wr a → P) ∧ (¬ en_wr b < en_wr a → Q)
  rw [en_wr_of ha, en_wr_of hb]; exact ⟨t, fun q => f (by omega)⟩
theorem br_le (ha : -2147483648 ≤ a ∧ a < 2147483648) (hb : -2147483648 ≤ b ∧ b < 2147483648) (t : a ≤ b → P) (f : b < a → Q) : (en_cmp .le a b → P) ∧ (¬ en_cmp .le a b → Q) := by
  show (en_wr a ≤ en_wr b → P) ∧ (¬ en_wr a ≤ en_wr b → Q)
  rw [en_wr_of ha, en_wr_of hb]; exact ⟨t, fun q => f (by omega)⟩
theorem br_eq_y (ha : -2147483648 ≤ a ∧ a < 2147483648) (hb : -2147483648 ≤ b ∧ b < 2147483648) (h : a = b) (t : P) : (en_cmp .eq a b → P) ∧ (¬ en_cmp .eq a b → Q) := br_eq ha hb (fun _ => t) (fun q => absurd h q)
theorem br_eq_n (ha : -2147483648 ≤ a ∧ a < 2147483648) (hb : -2147483648 ≤ b ∧ b < 2147483648) (h : ¬ a = b) (t : Q) : (en_cmp .eq a b → P) ∧ (¬ en_cmp .eq a b → Q) := br_eq ha hb (fun q => absurd q h) (fun _ => t)
theorem br_ne_y (ha : -2147483648 ≤ a ∧ a < 2147483648) (hb : -2147483648 ≤ b ∧ b < 2147483648) (h : ¬ a = b) (t : P) : (en_cmp .ne a b → P) ∧ (¬ en_cmp .ne a b → Q) := br_ne ha hb (fun _ => t) (fun q => absurd q h)
theorem br_ne_n (ha : -2147483648 ≤ a ∧ a < 2147483648) (hb : -2147483648 ≤ b ∧ b < 2147483648) (h : a = b) (t : Q) : (en_cmp .ne a b → P) ∧ (¬ en_cmp .ne a b → Q) := br_ne ha hb (fun q => absurd h q) (fun _ => t)
theorem br_lt_y (ha : -2147483648 ≤ a ∧ a < 2147483648) (hb : -2147483648 ≤ b ∧ b < 2147483648) (h : a < b) (t : P) : (en_cmp .lt a b → P) ∧ (¬ en_cmp .lt a b → Q) := br_lt ha hb (fun _ => t) (fun q => absurd h (Int.not_lt.mpr q))
theorem br_lt_n (ha : -2147483648 ≤ a ∧ a < 2147483648) (hb : -2147483648 ≤ b ∧ b < 2147483648) (h : b ≤ a) (t : Q) : (en_cmp .lt a b → P) ∧ (¬ en_cmp .lt a b → Q) := br_lt ha hb (fun q => absurd q (Int.not_lt.mpr h)) (fun _ => t)
theorem br_ge_y (ha : -2147483648 ≤ a ∧ a < 2147483648) (hb : -2147483648 ≤ b ∧ b < 2147483648) (h : b ≤ a) (t : P) : (en_cmp .ge a b → P) ∧ (¬ en_cmp .ge a b → Q) := br_ge ha hb (fun _ => t) (fun q => absurd q (Int.not_lt.mpr h))
theorem br_ge_n (ha : -2147483648 ≤ a ∧ a < 2147483648) (hb : -2147483648 ≤ b ∧ b < 2147483648) (h : a < b) (t : Q) : (en_cmp .ge a b → P) ∧ (¬ en_cmp .ge a b → Q) := br_ge ha hb (fun q => absurd h (Int.not_lt.mpr q)) (fun _ => t)
theorem br_gt_y (ha : -2147483648 ≤ a ∧ a < 2147483648) (hb : -2147483648 ≤ b ∧ b < 2147483648) (h : b < a) (t : P) : (en_cmp .gt a b → P) ∧ (¬ en_cmp .gt a b → Q) := br_gt ha hb (fun _ => t) (fun q => absurd h (Int.not_lt.mpr q))
theorem br_gt_n (ha : -2147483648 ≤ a ∧ a < 2147483648) (hb : -2147483648 ≤ b ∧ b < 2147483648) (h : a ≤ b) (t : Q) : (en_cmp .gt a b → P) ∧ (¬ en_cmp .gt a b → Q) := br_gt ha hb (fun q => absurd q (Int.not_lt.mpr h)) (fun _ => t)
theorem br_le_y (ha : -2147483648 ≤ a ∧ a < 2147483648) (hb : -2147483648 ≤ b ∧ b < 2147483648) (h : a ≤ b) (t : P) : (en_cmp .le a b → P) ∧ (¬ en_cmp .le a b → Q) := br_le ha hb (fun _ => t) (fun q => absurd q (Int.not_lt.mpr h))
theorem br_le_n (ha : -2147483648 ≤ a ∧ a < 2147483648) (hb : -2147483648 ≤ b ∧ b < 2147483648) (h : b < a) (t : Q) : (en_cmp .le a b → P) ∧ (¬ en_cmp .le a b → Q) := br_le ha hb (fun q => absurd h (Int.not_lt.mpr q)) (fun _ => t)
end BR
theorem tb_i {a lo : Int} {K : Nat → Prop} {d : Nat} {ts : List Nat} (ha : -2147483648 ≤ a ∧ a < 2147483648) (h : en_tb a lo K d ts) : en_tb (en_wr a) lo K d ts := by
  rw [en_wr_of ha]; exact h
theorem en_Ct_t {h bu k : Nat} {as : List AV} {M M1 : Mm} {c : Prop} [Decidable c] {post : Option AV → Mm → Prop} (hc : en_Ct h bu k as M (fun r M' => r = some (.inl (if c then 1 else 0)) ∧ M' = M1)) (q : c) (hp : post (some (.inl 1)) M1) : en_Ct h bu k as M post := en_Ct_mono hc (fun r M' hq => by rw [hq.1, hq.2, if_pos q]; exact hp)
theorem en_Ct_f {h bu k : Nat} {as : List AV} {M M1 : Mm} {c : Prop} [Decidable c] {post : Option AV → Mm → Prop} (hc : en_Ct h bu k as M (fun r M' => r = some (.inl (if c then 1 else 0)) ∧ M' = M1)) (q : ¬ c) (hp : post (some (.inl 0)) M1) : en_Ct h bu k as M post := en_Ct_mono hc (fun r M' hq => by rw [hq.1, hq.2, if_neg q]; exact hp)
