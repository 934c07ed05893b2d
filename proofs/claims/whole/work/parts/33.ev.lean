/-! two evenings that say the same (what stands behind a sheet's end may differ) -/
def evs (E F : Ev) : Prop := (∀ i, i < 4 → E.1 0 i = F.1 0 i) ∧ (∀ i, i < 8 → E.1 1 i = F.1 1 i) ∧ (∀ r i, 2 ≤ r → r ≤ 8 → i < 24 → E.1 r i = F.1 r i) ∧ (∀ p, p < 4 → E.1 14 p = F.1 14 p ∧ E.1 15 p = F.1 15 p) ∧ ∀ p i : Nat, p < 4 → (i : Int) < E.1 14 p → E.2 p i = F.2 p i
theorem evs_rfl {E : Ev} : evs E E := ⟨fun _ _ => rfl, fun _ _ => rfl, fun _ _ _ _ _ => rfl, fun _ _ => ⟨rfl, rfl⟩, fun _ _ _ _ => rfl⟩
theorem evs_symm {E F : Ev} (h : evs E F) : evs F E := ⟨fun i hi => (h.1 i hi).symm, fun i hi => (h.2.1 i hi).symm, fun r i a b c => (h.2.2.1 r i a b c).symm, fun p hp => ⟨(h.2.2.2.1 p hp).1.symm, (h.2.2.2.1 p hp).2.symm⟩, fun p i hp hi => (h.2.2.2.2 p i hp (by rw [(h.2.2.2.1 p hp).1]; exact hi)).symm⟩
theorem evs_tr {E F G : Ev} (h : evs E F) (h' : evs F G) : evs E G := ⟨fun i hi => (h.1 i hi).trans (h'.1 i hi), fun i hi => (h.2.1 i hi).trans (h'.2.1 i hi), fun r i a b c => (h.2.2.1 r i a b c).trans (h'.2.2.1 r i a b c), fun p hp => ⟨(h.2.2.2.1 p hp).1.trans (h'.2.2.2.1 p hp).1, (h.2.2.2.1 p hp).2.trans (h'.2.2.2.1 p hp).2⟩, fun p i hp hi => (h.2.2.2.2 p i hp hi).trans (h'.2.2.2.2 p i hp (by rw [← (h.2.2.2.1 p hp).1]; exact hi))⟩
theorem evq_evs {E F : Ev} (h : evq E F) (h5 : ∀ p, p < 4 → E.1 14 p ≤ 5) : evs E F := ⟨h.1, h.2.1, h.2.2.1, h.2.2.2.1, fun p i hp hi => h.2.2.2.2 p i hp (by have := h5 p hp; omega)⟩
section EVS
variable {E F : Ev}
theorem ev_r (h : evs E F) (r : Nat) (h2 : 2 ≤ r) (h8 : r ≤ 8) {w : Nat} (hw : w < 24) : E.1 r w = F.1 r w := h.2.2.1 r w h2 h8 hw
theorem ev_ok (h : evs E F) (hg : s_ok E) : s_ok F := by
  obtain ⟨g1, g2, g3, g4, g5⟩ := hg
  have hn : s_num F := by
    unfold s_num at g1 ⊢
    rw [← h.1 0 (by decide), ← h.1 1 (by decide), ← h.1 2 (by decide), ← h.2.1 0 (by decide), ← h.2.1 1 (by decide), ← h.2.1 2 (by decide), ← h.2.1 3 (by decide), ← h.2.1 4 (by decide), ← h.2.1 5 (by decide), ← h.2.1 6 (by decide), ← h.2.1 7 (by decide)]
    exact g1
  have h24 : E.1 0 1 ≤ 24 := g1.2.1.2
  have e01 := h.1 1 (by decide)
  refine ⟨hn, fun w hw => ?_, fun p hp => ?_, fun p hp i j hij hj => ?_, fun i hi => ?_⟩
  · have hw' : (w : Int) < E.1 0 1 := by omega
    have := g2 w hw'
    unfold s_word at this ⊢
    rw [← h.1 0 (by decide), ← ev_r h 2 (by decide) (by decide) (by omega), ← ev_r h 3 (by decide) (by decide) (by omega), ← ev_r h 4 (by decide) (by decide) (by omega), ← ev_r h 5 (by decide) (by decide) (by omega), ← ev_r h 6 (by decide) (by decide) (by omega), ← ev_r h 7 (by decide) (by decide) (by omega), ← ev_r h 8 (by decide) (by decide) (by omega)]
    exact this
  · obtain ⟨z1, z2⟩ := g3 p hp
    have e14 := (h.2.2.2.1 p hp).1
    refine ⟨by omega, fun i hi => ?_⟩
    rw [← h.2.2.2.2 p i hp (by omega), ← e01]
    exact z2 i (by omega)
  · obtain ⟨z1, z2⟩ := g3 p hp
    have e14 := (h.2.2.2.1 p hp).1
    have y1 := z2 i (by omega)
    have y2 := z2 j (by omega)
    rw [← h.2.2.2.2 p i hp (by omega), ← h.2.2.2.2 p j hp (by omega), ← ev_r h 4 (by decide) (by decide) (by omega), ← ev_r h 4 (by decide) (by decide) (by omega)]
    exact g4 p hp i j hij (by omega)
  · rw [← ev_r h 8 (by decide) (by decide) hi]
    exact g5 i hi
theorem ev_kn (h : evs E F) (p : Nat) {w : Nat} (hw : w < 24) : s_kn E p w = s_kn F p w := by unfold s_kn; rw [ev_r h 7 (by decide) (by decide) hw]
theorem ev_bar (h : evs E F) {w : Nat} (hw : w < 24) : s_bar E w = s_bar F w := by unfold s_bar; rw [h.2.1 7 (by decide), ev_r h 8 (by decide) (by decide) hw]
theorem ev_can (h : evs E F) (p : Nat) {w : Nat} (hw : w < 24) : s_can E p w = s_can F p w := by
  unfold s_can
  rw [ev_r h 3 (by decide) (by decide) hw, h.2.1 0 (by decide), ev_r h 4 (by decide) (by decide) hw, h.1 0 (by decide), ev_kn h p hw, ev_bar h hw]
theorem ev_cost (h : evs E F) {w : Nat} (hw : w < 24) : s_cost E w = s_cost F w := by
  unfold s_cost
  rw [ev_r h 2 (by decide) (by decide) hw, ev_r h 5 (by decide) (by decide) hw, ev_r h 6 (by decide) (by decide) hw]
theorem ev_vote (h : evs E F) {w : Nat} (hw : w < 24) : s_vote E w = s_vote F w := by
  unfold s_vote
  rw [h.2.1 6 (by decide), ev_r h 2 (by decide) (by decide) hw, h.1 2 (by decide), ev_r h 7 (by decide) (by decide) hw]
theorem ev_shl (h : evs E F) (hg : s_ok E) {p : Nat} (hp : p < 4) : s_shl E p = s_shl F p := by
  unfold s_shl
  rw [← (h.2.2.2.1 p hp).1]
  exact shl_congr _ _ (fun j _ hj => h.2.2.2.2 p j hp (by have := (hg.2.2.1 p hp).1; omega))
theorem shl_24 (hg : s_ok E) {p : Nat} (hp : p < 4) : ∀ w ∈ s_shl E p, w < 24 := fun w hw => by have := shl_w hg hp w hw; have := hg.1.2.1; omega
theorem ev_rd (h : evs E F) {p : Nat} {m v : Int} : ∀ (l : List Nat) (t n : Int), (∀ w ∈ l, w < 24) → s_rd (s_can E p) (s_cost E) m v l t n = s_rd (s_can F p) (s_cost F) m v l t n
  | [], _, _, _ => rfl
  | w :: r, t, n, hl => by
    have hw := hl w (List.mem_cons_self ..)
    have hr : ∀ x ∈ r, x < 24 := fun x hx => hl x (List.mem_cons_of_mem _ hx)
    simp only [s_rd]
    rw [ev_can h p hw, ev_cost h hw, ev_rd h r _ _ hr, ev_rd h r _ _ hr]
theorem ev_wr (h : evs E F) {p : Nat} {s : Int} : ∀ (l : List Nat) (t : Int) (b : Nat), (∀ w ∈ l, w < 24) → s_wr (s_can E p) (s_cost E) s l t b = s_wr (s_can F p) (s_cost F) s l t b
  | [], _, _, _ => rfl
  | w :: r, t, n, hl => by
    have hw := hl w (List.mem_cons_self ..)
    have hr : ∀ x ∈ r, x < 24 := fun x hx => hl x (List.mem_cons_of_mem _ hx)
    simp only [s_wr]
    rw [ev_can h p hw, ev_cost h hw, ev_wr h r _ _ hr, ev_wr h r _ _ hr]
theorem ev_to (h : evs E F) {p : Nat} : ∀ (l : List Nat) (t : Int), (∀ w ∈ l, w < 24) → s_tot (s_can E p) (s_cost E) l t = s_tot (s_can F p) (s_cost F) l t
  | [], _, _ => rfl
  | w :: r, t, hl => by
    have hw := hl w (List.mem_cons_self ..)
    have hr : ∀ x ∈ r, x < 24 := fun x hx => hl x (List.mem_cons_of_mem _ hx)
    simp only [s_tot]
    rw [ev_can h p hw, ev_cost h hw, ev_to h r _ hr, ev_to h r _ hr]
theorem ev_rdy (h : evs E F) (hg : s_ok E) {p : Nat} (hp : p < 4) : rdy E p = rdy F p := by
  unfold rdy
  rw [← ev_shl h hg hp, ← h.2.1 1 (by decide)]
  exact ev_rd h _ _ _ (shl_24 hg hp)
theorem ev_wrt (h : evs E F) (hg : s_ok E) {p : Nat} (hp : p < 4) {s : Int} : wrt E p s = wrt F p s := by
  unfold wrt
  rw [← ev_shl h hg hp]
  exact ev_wr h _ _ _ (shl_24 hg hp)
theorem ev_tot (h : evs E F) (hg : s_ok E) {p : Nat} (hp : p < 4) : s_tot (s_can E p) (s_cost E) (s_shl E p) 0 = s_tot (s_can F p) (s_cost F) (s_shl F p) 0 := by
  rw [← ev_shl h hg hp]
  exact ev_to h _ _ (shl_24 hg hp)
theorem ev_cc (h : evs E F) (hg : s_ok E) : ∀ n, n ≤ 4 → s_cc E n = s_cc F n
  | 0, _ => by simp only [s_cc]; rw [h.2.1 2 (by decide)]
  | n + 1, hn => by simp only [s_cc]; rw [ev_cc h hg n (by omega), ev_rdy h hg (show n < 4 by omega)]
theorem ev_pp (h : evs E F) : (E.1 0 2).toNat = (F.1 0 2).toNat := by rw [h.1 2 (by decide)]
theorem ev_ww (h : evs E F) : (E.1 0 1).toNat = (F.1 0 1).toNat := by rw [h.1 1 (by decide)]
theorem ok_pp (hg : s_ok E) : (E.1 0 2).toNat ≤ 4 := by have := hg.1.2.2.1; omega
theorem ok_ww (hg : s_ok E) : (E.1 0 1).toNat ≤ 24 := by have := hg.1.2.1; omega
theorem ev_call (h : evs E F) (hg : s_ok E) : s_call E = s_call F := by unfold s_call; rw [← ev_pp h, ev_cc h hg _ (ok_pp hg)]
theorem ev_clr (h : evs E F) (hg : s_ok E) : s_clr E = s_clr F := by unfold s_clr; rw [← ev_pp h, ev_cc h hg _ (ok_pp hg)]
theorem ev_kw (h : evs E F) {wr : Nat} : ∀ n, n ≤ 24 → s_kw E wr n = s_kw F wr n
  | 0, _ => rfl
  | n + 1, hn => by simp only [s_kw]; rw [ev_kw h n (by omega), ev_vote h (show n < 24 by omega), ev_r h 4 (by decide) (by decide) (show n < 24 by omega)]
theorem ev_kpw (h : evs E F) (hg : s_ok E) {p : Nat} (hp : p < 4) : kpw E p = kpw F p := by unfold kpw; rw [← ev_ww h, ← ev_call h hg, ← ev_wrt h hg hp, ev_kw h _ (ok_ww hg)]
theorem ev_kpc (h : evs E F) (hg : s_ok E) {p : Nat} (hp : p < 4) : kpc E p = kpc F p := by unfold kpc; rw [← ev_ww h, ← ev_call h hg, ← ev_wrt h hg hp, ev_kw h _ (ok_ww hg)]
theorem ev_kb (h : evs E F) (hg : s_ok E) {w : Nat} : ∀ n, n ≤ 4 → s_kb E w n = s_kb F w n
  | 0, _ => rfl
  | n + 1, hn => by simp only [s_kb]; rw [ev_kb h hg n (by omega), ev_kpw h hg (show n < 4 by omega)]
theorem ev_hm (h : evs E F) (hg : s_ok E) {c : Nat} : ∀ n, n ≤ 4 → s_hm E c n = s_hm F c n
  | 0, _ => rfl
  | n + 1, hn => by simp only [s_hm]; rw [ev_hm h hg n (by omega), ev_kpc h hg (show n < 4 by omega)]
theorem ev_worth (h : evs E F) (hg : s_ok E) {w : Nat} (hw : w < 24) : s_worth E w = s_worth F w := by
  unfold s_worth
  rw [← ev_pp h, ← ev_r h 4 (by decide) (by decide) hw, ev_hm h hg _ (ok_pp hg), ev_kb h hg _ (ok_pp hg), h.2.1 3 (by decide), h.2.1 4 (by decide), h.2.1 5 (by decide)]
theorem ev_pin (h : evs E F) (hg : s_ok E) {p : Nat} (hp : p < 4) {c : Int} : ∀ (l : List Nat) (t : Int), (∀ w ∈ l, w < 24) → s_pin E p c l t = s_pin F p c l t
  | [], _, _ => rfl
  | w :: r, t, hl => by
    have hw := hl w (List.mem_cons_self ..)
    have hr : ∀ x ∈ r, x < 24 := fun x hx => hl x (List.mem_cons_of_mem _ hx)
    simp only [s_pin]
    rw [ev_kpw h hg hp, ev_r h 4 (by decide) (by decide) hw, ev_worth h hg hw, ev_pin h hg hp r _ hr]
theorem ev_pts (h : evs E F) (hg : s_ok E) {p : Nat} (hp : p < 4) {c : Int} : pts E p c = pts F p c := by
  unfold pts
  rw [← ev_shl h hg hp]
  exact ev_pin h hg hp _ _ (shl_24 hg hp)
theorem ev_ld (h : evs E F) (hg : s_ok E) {o : Int} : ∀ n, n ≤ 4 → s_ld E o n = s_ld F o n
  | 0, _ => rfl
  | n + 1, hn => by simp only [s_ld]; rw [ev_ld h hg n (by omega), ev_pts h hg (show n < 4 by omega)]
theorem ev_lead (h : evs E F) (hg : s_ok E) {o : Int} : s_ld E o (E.1 0 2).toNat = s_ld F o (F.1 0 2).toNat := by rw [← ev_pp h, ev_ld h hg _ (ok_pp hg)]
theorem ev_cf (h : evs E F) {p : Nat} {l : Int} : ∀ n, n ≤ 24 → s_cf E p l n = s_cf F p l n
  | 0, _ => rfl
  | n + 1, hn => by
    simp only [s_cf]
    rw [ev_cf h n (by omega), ev_r h 3 (by decide) (by decide) (show n < 24 by omega), ev_kn h p (show n < 24 by omega), ev_bar h (show n < 24 by omega), ev_r h 4 (by decide) (by decide) (show n < 24 by omega)]
theorem ev_fill (h : evs E F) (hg : s_ok E) {p : Nat} {l : Int} : s_fill E p l = s_fill F p l := by unfold s_fill; rw [← ev_ww h, ev_cf h _ (ok_ww hg)]
theorem ev_most (h : evs E F) (hg : s_ok E) {p : Nat} {l : Int} : ∀ n, s_most E p l n = s_most F p l n
  | 0 => rfl
  | n + 1 => by simp only [s_most]; rw [ev_most h hg n, ev_fill h hg, ev_fill h hg]
theorem ev_us (h : evs E F) : ∀ n, n ≤ 24 → s_us E n = s_us F n
  | 0, _ => rfl
  | n + 1, hn => by simp only [s_us]; rw [ev_us h n (by omega), ev_r h 8 (by decide) (by decide) (show n < 24 by omega)]
theorem ev_fs (h : evs E F) : ∀ n, n ≤ 4 → s_fs E n = s_fs F n
  | 0, _ => rfl
  | 1, _ => by rw [s_fs_1, s_fs_1]
  | n + 2, hn => by
    rw [s_fs_s (E := E) (n := n + 1), s_fs_s (E := F) (n := n + 1), ev_fs h (n + 1) (by omega)]
    have := s_fs_lt F (n + 1) (by omega)
    rw [(h.2.2.2.1 (s_fs F (n + 1)) (by omega)).2, (h.2.2.2.1 (n + 1) (by omega)).2]
theorem ev_sw (h : evs E F) (hg : s_ok E) {w : Nat} : ∀ n, n ≤ 4 → s_sw E w n = s_sw F w n
  | 0, _ => rfl
  | n + 1, hn => by simp only [s_sw]; rw [ev_sw h hg n (by omega), ev_shl h hg (show n < 4 by omega)]
theorem ev_fw (h : evs E F) (hg : s_ok E) {p : Nat} {f : Nat → Int} : ∀ n i tk, s_fw E p f n i tk = s_fw F p f n i tk
  | 0, _, _ => rfl
  | n + 1, i, tk => by
    simp only [s_fw]
    rw [h.1 1 (by decide)]
    by_cases h1 : f i < 0
    · rw [if_pos h1, if_pos h1]
    · by_cases h2 : F.1 0 1 ≤ f i
      · rw [if_neg h1, if_neg h1, if_pos h2, if_pos h2]
      · have h24 : (f i).toNat < 24 := by have := hg.1.2.1; have := h.1 1 (by decide); omega
        rw [ev_can h p h24, ev_r h 4 (by decide) (by decide) h24, ev_fw h hg n]
end EVS
