def wl (E : Ev) (p : Nat) : List Nat := (List.range (E.1 0 1).toNat).filter (fun w => decide (w ∈ s_shl E p))
def prm (E : Ev) (p : Nat) (l : List Nat) : Prop := l.length = (E.1 14 p).toNat ∧ l.Nodup ∧ ∀ w ∈ l, w ∈ s_shl E p
def stO (E : Ev) (p : Nat) (s : Int × List Nat) (l : List Nat) : Int × List Nat := if s.1 < pts (shE E p l) p (-1) then (pts (shE E p l) p (-1), l) else s
def bo (E : Ev) (p : Nat) : Int × List Nat := (pmw (E.1 14 p).toNat (wl E p)).foldl (stO E p) (-1, [])
theorem wl_mem {E : Ev} (hg : s_ok E) {p w : Nat} (hp : p < 4) : w ∈ wl E p ↔ w ∈ s_shl E p := by
  unfold wl
  rw [List.mem_filter, List.mem_range]
  constructor
  · exact fun h => of_decide_eq_true h.2
  · intro h
    have := shl_w hg hp w h
    exact ⟨by omega, decide_eq_true h⟩
theorem wl_srt {E : Ev} {p : Nat} : (wl E p).Pairwise (fun a b => a < b) := List.Pairwise.filter _ List.pairwise_lt_range
theorem wl_nd {E : Ev} {p : Nat} : (wl E p).Nodup := List.Pairwise.imp (fun h => Nat.ne_of_lt h) wl_srt
theorem wl_len {E : Ev} (hg : s_ok E) {p : Nat} (hp : p < 4) : (wl E p).length = (E.1 14 p).toNat := by
  have h := ((List.perm_ext_iff_of_nodup wl_nd (sheet_nd hg hp)).mpr (fun a => wl_mem hg hp)).length_eq
  rw [h]
  unfold s_shl
  rw [shl_len]
theorem getD_lt {l : List Nat} (h : l.Pairwise (fun a b => a < b)) {a b : Nat} (hab : a < b) (hb : b < l.length) : l.getD a 0 < l.getD b 0 := by
  have := List.pairwise_iff_getElem.mp h a b (by omega) hb hab
  rw [List.getD_eq_getElem?_getD, List.getD_eq_getElem?_getD, List.getElem?_eq_getElem hb, List.getElem?_eq_getElem (show a < l.length by omega)]
  exact this
theorem range_getD (l : List Nat) : (List.range l.length).map (fun i => l.getD i 0) = l := by
  apply List.ext_getElem?
  intro j
  by_cases h : j < l.length
  · rw [List.getElem?_map, List.getElem?_range h, List.getElem?_eq_getElem h]
    show some (l.getD j 0) = _
    rw [List.getD_eq_getElem?_getD, List.getElem?_eq_getElem h]
    rfl
  · rw [List.getElem?_eq_none (l := l) (by omega), List.getElem?_eq_none (l := (List.range l.length).map _) (by rw [List.length_map, List.length_range]; omega)]
def gw (E : Ev) (p : Nat) : Nat → Nat := fun i => (wl E p).getD i 0
theorem gw_lt {E : Ev} (hg : s_ok E) {p : Nat} (hp : p < 4) : ∀ a b, a < b → b < (E.1 14 p).toNat → gw E p a < gw E p b := fun a b hab hb => getD_lt wl_srt hab (by rw [wl_len hg hp]; exact hb)
theorem pm_map {E : Ev} (hg : s_ok E) {p : Nat} (hp : p < 4) : pmw (E.1 14 p).toNat (wl E p) = (pmw (E.1 14 p).toNat (List.range (E.1 14 p).toNat)).map (List.map (gw E p)) := by
  have h := range_getD (wl E p)
  rw [wl_len hg hp] at h
  rw [← pmw_map, show List.map (gw E p) (List.range (E.1 14 p).toNat) = wl E p from h]
  intro a ha b hb e
  have ha := List.mem_range.mp ha
  have hb := List.mem_range.mp hb
  rcases Nat.lt_trichotomy a b with z | z | z
  · have := gw_lt hg hp a b z hb; omega
  · exact z
  · have := gw_lt hg hp b a z ha; omega
theorem prm_g {E : Ev} (hg : s_ok E) {p : Nat} (hp : p < 4) {L : List Nat} (h : L.length = (E.1 14 p).toNat ∧ (∀ x ∈ L, x < (E.1 14 p).toNat) ∧ L.Nodup) : prm E p (L.map (gw E p)) := by
  refine ⟨by rw [List.length_map]; exact h.1, List.pairwise_map.mpr (List.Pairwise.imp_of_mem (fun {a b} ha hb hab e => ?_) h.2.2), fun w hw => ?_⟩
  · have ha := h.2.1 a ha
    have hb := h.2.1 b hb
    rcases Nat.lt_trichotomy a b with z | z | z
    · have := gw_lt hg hp a b z hb; omega
    · exact hab z
    · have := gw_lt hg hp b a z ha; omega
  · obtain ⟨x, hx, rfl⟩ := List.mem_map.mp hw
    have := h.2.1 x hx
    exact (wl_mem hg hp).mp (getD_mem (by rw [wl_len hg hp]; exact this))
