/-! a block says an evening E: contracts over E -/
def isE (M : Mm) (e : Nat) (E : Ev) : Prop := (∀ r, r < 9 ∨ r = 14 ∨ r = 15 → M.1 (e + r) = E.1 r) ∧ ∀ p, p < 4 → M.1 (e + 9 + 1 + 1 * p) = E.2 p
def rdy (E : Ev) (p : Nat) : Int := s_rd (s_can E p) (s_cost E) (E.1 1 1) 1000000 (s_shl E p) 0 0
def wrt (E : Ev) (p : Nat) (sec : Int) : Nat := s_wr (s_can E p) (s_cost E) sec (s_shl E p) 0 0
/-- distinct columns on a sheet -/
def s_dis (E : Ev) (p : Nat) : Prop := ∀ i j : Nat, i < j → (j : Int) < E.1 14 p → E.1 4 (E.2 p i).toNat ≠ E.1 4 (E.2 p j).toNat
def s_ok (E : Ev) : Prop := s_num E ∧ s_wok E ∧ (∀ p, p < 4 → s_sh E p) ∧ (∀ p, p < 4 → s_dis E p) ∧ ∀ i : Nat, i < 24 → E.1 8 i = 0 ∨ E.1 8 i = 1
theorem isE_self {M : Mm} {e : Nat} : isE M e (vE M e) := ⟨fun _ _ => rfl, fun _ _ => rfl⟩
theorem isE_fr {M M' : Mm} {e : Nat} {E : Ev} (h : isE M e E) (hf : ∀ a, e ≤ a → a < e + 16 → M'.1 a = M.1 a) : isE M' e E := ⟨fun r hr => by rw [hf (e + r) (by omega) (by omega)]; exact h.1 r hr, fun p hp => by rw [hf _ (by omega) (by omega)]; exact h.2 p hp⟩
section TR
variable {M : Mm} {e : Nat} {E : Ev}
theorem tr_r (h : isE M e E) (r : Nat) (hr : r < 9 ∨ r = 14 ∨ r = 15) : (vE M e).1 r = E.1 r := h.1 r hr
theorem tr_kn (h : isE M e E) (p w : Nat) : s_kn (vE M e) p w = s_kn E p w := by unfold s_kn; rw [tr_r h 7 (by decide)]
theorem tr_bar (h : isE M e E) (w : Nat) : s_bar (vE M e) w = s_bar E w := by unfold s_bar; rw [tr_r h 1 (by decide), tr_r h 8 (by decide)]
theorem tr_can (h : isE M e E) : s_can (vE M e) = s_can E := by
  funext p w
  unfold s_can
  rw [tr_r h 3 (by decide), tr_r h 1 (by decide), tr_r h 4 (by decide), tr_r h 0 (by decide), tr_kn h, tr_bar h]
theorem tr_cost (h : isE M e E) : s_cost (vE M e) = s_cost E := by
  funext w
  unfold s_cost
  rw [tr_r h 2 (by decide), tr_r h 5 (by decide), tr_r h 6 (by decide)]
theorem tr_vote (h : isE M e E) : s_vote (vE M e) = s_vote E := by
  funext w
  unfold s_vote
  rw [tr_r h 1 (by decide), tr_r h 2 (by decide), tr_r h 0 (by decide), tr_r h 7 (by decide)]
theorem tr_shl (h : isE M e E) {p : Nat} (hp : p < 4) : s_shl (vE M e) p = s_shl E p := by
  unfold s_shl
  rw [tr_r h 14 (by decide), show (vE M e).2 p = E.2 p from h.2 p hp]
theorem tr_num (h : isE M e E) (hn : s_num E) : s_num (vE M e) := by
  unfold s_num at hn ⊢
  rw [tr_r h 0 (by decide), tr_r h 1 (by decide)]
  exact hn
theorem tr_word (h : isE M e E) {w : Nat} (hw : s_word E w) : s_word (vE M e) w := by
  unfold s_word at hw ⊢
  rw [tr_r h 0 (by decide), tr_r h 2 (by decide), tr_r h 3 (by decide), tr_r h 4 (by decide), tr_r h 5 (by decide), tr_r h 6 (by decide), tr_r h 7 (by decide), tr_r h 8 (by decide)]
  exact hw
theorem tr_wok (h : isE M e E) (hw : s_wok E) : s_wok (vE M e) := fun w hq => tr_word h (hw w (by rw [tr_r h 0 (by decide)] at hq; exact hq))
theorem tr_sh (h : isE M e E) {p : Nat} (hp : p < 4) (hs : s_sh E p) : s_sh (vE M e) p := by
  unfold s_sh at hs ⊢
  rw [tr_r h 14 (by decide), tr_r h 0 (by decide), show (vE M e).2 p = E.2 p from h.2 p hp]
  exact hs
theorem tr_rdy (h : isE M e E) {p : Nat} (hp : p < 4) : s_rd (s_can (vE M e) p) (s_cost (vE M e)) (M.1 (e + 1) 1) 1000000 (s_shl (vE M e) p) 0 0 = rdy E p := by
  unfold rdy
  rw [tr_can h, tr_cost h, tr_shl h hp, show M.1 (e + 1) = E.1 1 from h.1 1 (by decide)]
theorem tr_cf (h : isE M e E) {p : Nat} {l : Int} : ∀ n, s_cf (vE M e) p l n = s_cf E p l n
  | 0 => rfl
  | n + 1 => by
    unfold s_cf
    rw [tr_r h 3 (by decide), tr_r h 4 (by decide), tr_kn h, tr_bar h, tr_cf h n]
theorem tr_fill (h : isE M e E) (p : Nat) (l : Int) : s_fill (vE M e) p l = s_fill E p l := by
  unfold s_fill
  rw [tr_cf h, tr_r h 0 (by decide)]
theorem tr_most (h : isE M e E) {p : Nat} {l : Int} : ∀ n, s_most (vE M e) p l n = s_most E p l n
  | 0 => rfl
  | n + 1 => by
    unfold s_most
    rw [tr_most h n, tr_fill h, tr_fill h]
/-- the numbers of an evening, as the block has them -/
theorem nm_I (h : isE M e E) (hn : s_num E) : (1 ≤ M.1 e 0 ∧ M.1 e 0 ≤ 5) ∧ (0 ≤ M.1 e 1 ∧ M.1 e 1 ≤ 24) ∧ (0 ≤ M.1 e 2 ∧ M.1 e 2 ≤ 4) ∧ (0 ≤ M.1 (e + 1) 0 ∧ M.1 (e + 1) 0 ≤ 25) ∧ (1 ≤ M.1 (e + 1) 1 ∧ M.1 (e + 1) 1 ≤ 5) ∧ (1 ≤ M.1 (e + 1) 2 ∧ M.1 (e + 1) 2 ≤ 600) ∧ (0 ≤ M.1 (e + 1) 3 ∧ M.1 (e + 1) 3 ≤ 50) ∧ (0 ≤ M.1 (e + 1) 4 ∧ M.1 (e + 1) 4 ≤ 50) ∧ (0 ≤ M.1 (e + 1) 5 ∧ M.1 (e + 1) 5 ≤ 50) ∧ (0 ≤ M.1 (e + 1) 6 ∧ M.1 (e + 1) 6 ≤ 1) ∧ (0 ≤ M.1 (e + 1) 7 ∧ M.1 (e + 1) 7 ≤ 1) := nm_E (tr_num h hn)
theorem r0_I (h : isE M e E) (i : Nat) : M.1 e i = E.1 0 i := congrFun (h.1 0 (by decide)) i
theorem W_can (h : isE M e E) (hg : s_ok E) {p : Nat} {x : Int} (hp : p < 4) (h0 : 0 ≤ x) (h1 : x < E.1 0 1) : en_Ct 2 0 21 [.inr (.inr (1, 1, e)), .inl ((p : Nat) : Int), .inl x] M (fun r M' => r = some (.inl (if s_can E p x.toNat = true then 1 else 0)) ∧ M' = M) := by
  have := R_canStand' e p x M hp h0 (by rw [r0_I h]; exact h1) (tr_wok h hg.2.1) (tr_num h hg.1)
  rw [tr_can h] at this
  exact this
theorem W_cost (h : isE M e E) (hg : s_ok E) {x : Int} (h0 : 0 ≤ x) (h1 : x < E.1 0 1) : en_Ct 1 0 18 [.inr (.inr (1, 1, e)), .inl x] M (fun r M' => r = some (.inl (s_cost E x.toNat)) ∧ M' = M) := by
  have := R_cost' e x M h0 (by rw [r0_I h]; exact h1) (tr_wok h hg.2.1) (tr_num h hg.1)
  rw [tr_cost h] at this
  exact this
theorem W_vote (h : isE M e E) (hg : s_ok E) {x : Int} (h0 : 0 ≤ x) (h1 : x < E.1 0 1) : en_Ct 2 0 27 [.inr (.inr (1, 1, e)), .inl x] M (fun r M' => r = some (.inl (if s_vote E x.toNat = true then 1 else 0)) ∧ M' = M) := by
  have := R_passesVote' e x M h0 (by rw [r0_I h]; exact h1) (tr_wok h hg.2.1) (tr_num h hg.1)
  rw [tr_vote h] at this
  exact this
theorem W_rdy (h : isE M e E) (hg : s_ok E) {p : Nat} (hp : p < 4) : en_Ct 3 0 30 [.inr (.inr (1, 1, e)), .inl ((p : Nat) : Int)] M (fun r M' => r = some (.inl (rdy E p)) ∧ M' = M) := by
  have := R_ready e p M hp (tr_num h hg.1) (tr_wok h hg.2.1) (tr_sh h hp (hg.2.2.1 p hp))
  rw [tr_rdy h hp] at this
  exact this
theorem W_wrt (h : isE M e E) (hg : s_ok E) {p : Nat} (hp : p < 4) {sec : Int} (hs : -2147483648 ≤ sec ∧ sec < 2147483648) : en_Ct 3 0 28 [.inr (.inr (1, 1, e)), .inl ((p : Nat) : Int), .inl sec] M (fun r M' => r = some (.inl ((wrt E p sec : Nat) : Int)) ∧ M' = M) := by
  have := R_writtenBy e p M hp (tr_num h hg.1) (tr_wok h hg.2.1) (tr_sh h hp (hg.2.2.1 p hp)) sec hs
  rw [tr_can h, tr_cost h, tr_shl h hp] at this
  exact this
theorem W_tot (h : isE M e E) (hg : s_ok E) {p : Nat} (hp : p < 4) : en_Ct 3 0 29 [.inr (.inr (1, 1, e)), .inl ((p : Nat) : Int)] M (fun r M' => r = some (.inl (s_tot (s_can E p) (s_cost E) (s_shl E p) 0)) ∧ M' = M) := by
  have := R_whole e p M hp (tr_num h hg.1) (tr_wok h hg.2.1) (tr_sh h hp (hg.2.2.1 p hp))
  rw [tr_can h, tr_cost h, tr_shl h hp] at this
  exact this
theorem W_fill (h : isE M e E) (hg : s_ok E) {p : Nat} (hp : p < 4) {l : Int} (hl : -2147483648 ≤ l ∧ l < 2147483648) : en_Ct 2 0 31 [.inr (.inr (1, 1, e)), .inl ((p : Nat) : Int), .inl l] M (fun r M' => r = some (.inl ((s_fill E p l : Nat) : Int)) ∧ M' = M) := by
  have := R_fill e M (tr_num h hg.1) (tr_wok h hg.2.1) p hp l hl
  rw [tr_fill h] at this
  exact this
theorem W_most (h : isE M e E) (hg : s_ok E) {p : Nat} (hp : p < 4) {l : Int} (hl : -2147483648 ≤ l ∧ l < 2147483648) : en_Ct 3 0 32 [.inr (.inr (1, 1, e)), .inl ((p : Nat) : Int), .inl l] M (fun r M' => r = some (.inl (if s_most E p l (E.1 0 2).toNat = true then 1 else 0)) ∧ M' = M) := by
  have := R_most e M (tr_num h hg.1) (tr_wok h hg.2.1) p hp l hl
  rw [tr_most h, r0_I h] at this
  exact this
end TR
theorem s_rd_b {can : Nat → Bool} {cost : Nat → Int} {need : Int} (hc : ∀ w, can w = true → 1 ≤ cost w ∧ cost w ≤ 74) : ∀ (l : List Nat) (t n : Int), 0 ≤ t → (0 ≤ s_rd can cost need 1000000 l t n ∧ s_rd can cost need 1000000 l t n ≤ 1000000 + t + 74 * (l.length : Int))
  | [], t, n, ht => by simp [s_rd]; omega
  | w :: r, t, n, ht => by
    unfold s_rd
    simp only [List.length_cons]
    split
    · have h1 := hc w ‹_›
      split
      · omega
      · have := s_rd_b hc (need := need) r (t + cost w) (n + 1) (by omega)
        omega
    · have := s_rd_b hc (need := need) r t n ht
      omega
