theorem ok_up {E : Ev} (hg : s_ok E) {r i : Nat} {v : Int} (h1 : s_num (upr E r i v)) (h2 : s_wok (upr E r i v)) (hr : r ≠ 0 ∨ i ≠ 1) (hr4 : r ≠ 4) (h14 : r = 14 → 0 ≤ v ∧ v ≤ E.1 14 i) (h8 : r = 8 → v = 0 ∨ v = 1) : s_ok (upr E r i v) := by
  obtain ⟨g1, g2, g3, g4, g5⟩ := hg
  have e14 : ∀ p, 0 ≤ E.1 14 p → 0 ≤ (upr E r i v).1 14 p ∧ (upr E r i v).1 14 p ≤ E.1 14 p := by
    intro p hp
    by_cases hh : r = 14 ∧ p = i
    · obtain ⟨rfl, rfl⟩ := hh
      rw [upr_s]
      exact h14 rfl
    · rw [upr_n (by omega)]
      exact ⟨hp, Int.le_refl _⟩
  refine ⟨h1, h2, fun p hp => ?_, fun p hp a b hab hb => ?_, fun j hj => ?_⟩
  · obtain ⟨z1, z2⟩ := g3 p hp
    have := e14 p z1.1
    refine ⟨by omega, fun j hj => ?_⟩
    rw [upr_n (q := 0) (j := 1) (by omega)]
    exact z2 j (by omega)
  · have := e14 p (g3 p hp).1.1
    rw [upr_n (q := 4) (by omega), upr_n (q := 4) (by omega)]
    exact g4 p hp a b hab (by omega)
  · by_cases hh : r = 8 ∧ j = i
    · obtain ⟨rfl, rfl⟩ := hh
      rw [upr_s]
      exact h8 rfl
    · rw [upr_n (by omega)]
      exact g5 j hj
theorem num_n {E : Ev} {r i : Nat} {v : Int} (hn : s_num E) (hr : (r ≠ 0 ∧ r ≠ 1) ∨ (r = 0 ∧ 3 ≤ i)) : s_num (upr E r i v) := by
  unfold s_num at hn ⊢
  rw [upr_n (by omega), upr_n (by omega), upr_n (by omega), upr_n (by omega), upr_n (by omega), upr_n (by omega), upr_n (by omega), upr_n (by omega), upr_n (by omega), upr_n (by omega), upr_n (by omega)]
  exact hn
theorem wok_n {E : Ev} {r i : Nat} {v : Int} (hn : s_wok E) (hr : (r = 0 ∧ 2 ≤ i) ∨ r = 1 ∨ 9 ≤ r) : s_wok (upr E r i v) := by
  intro w hw
  rw [upr_n (by omega)] at hw
  have := hn w hw
  unfold s_word at this ⊢
  rw [upr_n (by omega), upr_n (by omega), upr_n (by omega), upr_n (by omega), upr_n (by omega), upr_n (by omega), upr_n (by omega), upr_n (by omega)]
  exact this
def a_seed (E : Ev) (v : Int) : Nat × Int := (0, E.1 0 3)
def u_seed (E : Ev) (v : Int) : Ev := upr E 0 3 v
theorem PX_seed (E : Ev) (M : Mm) (hI : isE M 1 E) (hg : s_ok E) (v : Int)  (hv : -2147483648 ≤ v ∧ v < 2147483648) : en_Ct 9 0 115 [.inr (.inr (1, 5, 0)), .inl v] M (fun r M' => r = some (.inl (a_seed E v).2) ∧ (((a_seed E v).1 ≠ 0 ∧ sX (aX M (a_seed E v).1) M') ∨ ((a_seed E v).1 = 0 ∧ xE M M' ∧ isE M' 1 (u_seed E v)))) := by
  obtain ⟨n0, n1, n2, a0, a1, a2, a3, a4, a5, a6, a7⟩ := hg.1
  have r0 : M.1 1 0 = E.1 0 0 := r0_I hI 0
  have r1 : M.1 1 1 = E.1 0 1 := r0_I hI 1
  have r2 : M.1 1 2 = E.1 0 2 := r0_I hI 2
  refine ct_115 rfl ?_
  refine aw_115_0 ?_
  have ha : a_seed E v = (0, M.1 1 3) := by
    unfold a_seed
    repeat first | rw [if_pos (by omega)] | rw [if_neg (by omega)]
    first | done | rfl | (rw [show M.1 1 3 = E.1 0 3 from r0_I hI 3])
  rw [ha]
  refine ⟨rfl, Or.inr ⟨rfl, ?_⟩⟩
  exact ⟨xE_w xE_rfl (by decide), isE_w hI (r := 0) (by decide) 3 v⟩
theorem PM_seed (E : Ev) (M : Mm) (hJ : isM M 84 E) (hg : s_ok E) (v : Int)  (hv : -2147483648 ≤ v ∧ v < 2147483648) : en_Ct 9 0 236 [.inr (.inr (1, 6, 84)), .inl v] M (fun r M' => r = some (.inl (a_seed E v).2) ∧ (((a_seed E v).1 ≠ 0 ∧ sM (aM M (a_seed E v).1) M') ∨ ((a_seed E v).1 = 0 ∧ mE M M' ∧ isM M' 84 (u_seed E v)))) := by
  obtain ⟨n0, n1, n2, a0, a1, a2, a3, a4, a5, a6, a7⟩ := hg.1
  have r0 : M.1 84 9 = E.1 0 0 := hJ.1.1
  have r1 : M.1 84 10 = E.1 0 1 := hJ.1.2.1
  have r2 : M.1 84 18 = E.1 0 2 := hJ.1.2.2.1
  refine ct_236 rfl ?_
  refine aw_236_0 ?_
  have ha : a_seed E v = (0, M.1 84 23) := by
    unfold a_seed
    repeat first | rw [if_pos (by omega)] | rw [if_neg (by omega)]
    first | done | rfl | (rw [show M.1 84 23 = E.1 0 3 from hJ.1.2.2.2])
  rw [ha]
  refine ⟨rfl, Or.inr ⟨rfl, ?_⟩⟩
  exact ⟨mE_w0 mE_rfl (by decide), isM_w0 hJ (by decide) v⟩
theorem ea_seed {E F : Ev} (h : evs E F) (hg : s_ok E) {v : Int} : a_seed E v = a_seed F v := by
  have hb := hg.1.2.2.1
  have hw := hg.1.2.1
  unfold a_seed
  rw [h.1 3 (by decide)]
theorem eu_seed {E F : Ev} (h : evs E F) (hg : s_ok E) {v : Int}  (h0 : (a_seed E v).1 = 0) : evs (u_seed E v) (u_seed F v) ∧ s_ok (u_seed E v) ∧ E.1 0 1 ≤ (u_seed E v).1 0 1 := by
  have hb := hg.1.2.2.1
  have hw := hg.1.2.1
  exact ⟨ev_upr h (by decide) v, ok_up hg (num_n hg.1 (by omega)) (wok_n hg.2.1 (by omega)) (by omega) (by decide) (by omega) (by omega), by unfold u_seed; rw [upr_n (by omega)]; exact Int.le_refl _⟩
theorem S_seed {v : Int}  (hv : -2147483648 ≤ v ∧ v < 2147483648) : sameC 115 236 [.inl v] := same_up (f := fun E => a_seed E v) (u := fun E => u_seed E v) (by decide) (by decide) (fun E M h1 h2 => PX_seed E M h1 h2 v  hv) (fun E M h1 h2 => PM_seed E M h1 h2 v  hv) (fun E F h1 h2 => ea_seed h1 h2) (fun E => by show (a_seed E v).1 ≤ 5; unfold a_seed; (repeat' split) <;> exact Nat.le_of_ble_eq_true rfl) (fun E F h1 h2 h3 => eu_seed h1 h2  h3)
def a_columns (E : Ev) (n : Int) : Nat × Int := if 1 ≤ n ∧ n ≤ 5 then (if 0 < E.1 0 1 then (4, -5) else (0, E.1 0 0)) else (1, -2)
def u_columns (E : Ev) (n : Int) : Ev := upr E 0 0 n
theorem PX_columns (E : Ev) (M : Mm) (hI : isE M 1 E) (hg : s_ok E) (n : Int)  (hn : -2147483648 ≤ n ∧ n < 2147483648) : en_Ct 9 0 75 [.inr (.inr (1, 5, 0)), .inl n] M (fun r M' => r = some (.inl (a_columns E n).2) ∧ (((a_columns E n).1 ≠ 0 ∧ sX (aX M (a_columns E n).1) M') ∨ ((a_columns E n).1 = 0 ∧ xE M M' ∧ isE M' 1 (u_columns E n)))) := by
  obtain ⟨n0, n1, n2, a0, a1, a2, a3, a4, a5, a6, a7⟩ := hg.1
  have r0 : M.1 1 0 = E.1 0 0 := r0_I hI 0
  have r1 : M.1 1 1 = E.1 0 1 := r0_I hI 1
  have r2 : M.1 1 2 = E.1 0 2 := r0_I hI 2
  refine ct_75 rfl ?_
  refine aw_75_0 ?_
  by_cases c1 : 1 ≤ n ∧ n ≤ 5
  · refine ⟨1, 0, by first | decide | omega, by first | decide | omega, en_Ct_t (R_within n 1 5 (by omega) (by omega) (by omega) _) c1 ?_⟩
    refine br_ne_y (by decide) (by decide) (by decide) ?_
    refine aw_75_16 ?_
    refine br_le (a := M.1 1 1) (b := 0) (by omega) (by omega) (fun q3 => ?_) (fun q3 => ?_)
    · refine aw_75_33 ?_
      have ha : a_columns E n = (0, M.1 1 0) := by
        unfold a_columns
        repeat first | rw [if_pos (by omega)] | rw [if_neg (by omega)]
        first | done | rfl | (rw [r0])
      rw [ha]
      refine ⟨rfl, Or.inr ⟨rfl, ?_⟩⟩
      exact ⟨xE_w xE_rfl (by decide), isE_w hI (r := 0) (by decide) 0 n⟩
    · refine ⟨2, 0, by first | decide | omega, by first | decide | omega, en_Ct_eq (R_refX (-5) (by omega) M) ?_⟩
      have ha : a_columns E n = (4, (-5)) := by
        unfold a_columns
        repeat first | rw [if_pos (by omega)] | rw [if_neg (by omega)]
        first | done | rfl | (rw [r0])
      rw [ha]
      exact ⟨rfl, Or.inl ⟨by decide, sX_rfl⟩⟩
  · refine ⟨1, 0, by first | decide | omega, by first | decide | omega, en_Ct_f (R_within n 1 5 (by omega) (by omega) (by omega) _) c1 ?_⟩
    refine br_ne_n (by decide) (by decide) (by decide) ?_
    refine ⟨2, 0, by first | decide | omega, by first | decide | omega, en_Ct_eq (R_refX (-2) (by omega) M) ?_⟩
    have ha : a_columns E n = (1, (-2)) := by
      unfold a_columns
      repeat first | rw [if_pos (by omega)] | rw [if_neg (by omega)]
      first | done | rfl | (rw [r0])
    rw [ha]
    exact ⟨rfl, Or.inl ⟨by decide, sX_rfl⟩⟩
theorem PM_columns (E : Ev) (M : Mm) (hJ : isM M 84 E) (hg : s_ok E) (n : Int)  (hn : -2147483648 ≤ n ∧ n < 2147483648) : en_Ct 9 0 156 [.inr (.inr (1, 6, 84)), .inl n] M (fun r M' => r = some (.inl (a_columns E n).2) ∧ (((a_columns E n).1 ≠ 0 ∧ sM (aM M (a_columns E n).1) M') ∨ ((a_columns E n).1 = 0 ∧ mE M M' ∧ isM M' 84 (u_columns E n)))) := by
  obtain ⟨n0, n1, n2, a0, a1, a2, a3, a4, a5, a6, a7⟩ := hg.1
  have r0 : M.1 84 9 = E.1 0 0 := hJ.1.1
  have r1 : M.1 84 10 = E.1 0 1 := hJ.1.2.1
  have r2 : M.1 84 18 = E.1 0 2 := hJ.1.2.2.1
  refine ct_156 rfl ?_
  refine aw_156_0 ?_
  by_cases c1 : 1 ≤ n ∧ n ≤ 5
  · refine ⟨1, 0, by first | decide | omega, by first | decide | omega, en_Ct_t (R_in (en_wr n) 1 5 n 1 5 (wl_wr ⟨by omega, by omega⟩) (wl_of ⟨by omega, by omega⟩) (wl_of ⟨by omega, by omega⟩) _) c1 ?_⟩
    refine br_ne_y (by decide) (by decide) (by decide) ?_
    refine aw_156_19 ?_
    refine br_le (a := M.1 84 10) (b := 0) (by omega) (by omega) (fun q3 => ?_) (fun q3 => ?_)
    · refine aw_156_33 ?_
      have ha : a_columns E n = (0, M.1 84 9) := by
        unfold a_columns
        repeat first | rw [if_pos (by omega)] | rw [if_neg (by omega)]
        first | done | rfl | (rw [r0])
      rw [ha]
      refine ⟨rfl, Or.inr ⟨rfl, ?_⟩⟩
      exact ⟨mE_w0 mE_rfl (by decide), isM_w0 hJ (by decide) n⟩
    · refine ⟨1, 0, by first | decide | omega, by first | decide | omega, en_Ct_eq (R_refM (-5) (by omega) M) ?_⟩
      have ha : a_columns E n = (4, (-5)) := by
        unfold a_columns
        repeat first | rw [if_pos (by omega)] | rw [if_neg (by omega)]
        first | done | rfl | (rw [r0])
      rw [ha]
      exact ⟨rfl, Or.inl ⟨by decide, sM_rfl⟩⟩
  · refine ⟨1, 0, by first | decide | omega, by first | decide | omega, en_Ct_f (R_in (en_wr n) 1 5 n 1 5 (wl_wr ⟨by omega, by omega⟩) (wl_of ⟨by omega, by omega⟩) (wl_of ⟨by omega, by omega⟩) _) c1 ?_⟩
    refine br_ne_n (by decide) (by decide) (by decide) ?_
    refine ⟨1, 0, by first | decide | omega, by first | decide | omega, en_Ct_eq (R_refM (-2) (by omega) M) ?_⟩
    have ha : a_columns E n = (1, (-2)) := by
      unfold a_columns
      repeat first | rw [if_pos (by omega)] | rw [if_neg (by omega)]
      first | done | rfl | (rw [r0])
    rw [ha]
    exact ⟨rfl, Or.inl ⟨by decide, sM_rfl⟩⟩
theorem ea_columns {E F : Ev} (h : evs E F) (hg : s_ok E) {n : Int} : a_columns E n = a_columns F n := by
  have hb := hg.1.2.2.1
  have hw := hg.1.2.1
  unfold a_columns
  rw [h.1 1 (by decide), h.1 0 (by decide)]
theorem eu_columns {E F : Ev} (h : evs E F) (hg : s_ok E) {n : Int}  (h0 : (a_columns E n).1 = 0) : evs (u_columns E n) (u_columns F n) ∧ s_ok (u_columns E n) ∧ E.1 0 1 ≤ (u_columns E n).1 0 1 := by
  have hb := hg.1.2.2.1
  have hw := hg.1.2.1
  have hc : (1 ≤ n ∧ n ≤ 5) ∧ E.1 0 1 = 0 := by
    unfold a_columns at h0
    by_cases z1 : 1 ≤ n ∧ n ≤ 5
    · by_cases z2 : 0 < E.1 0 1
      · rw [if_pos z1, if_pos z2] at h0
        cases h0
      · exact ⟨z1, by omega⟩
    · rw [if_neg z1] at h0
      cases h0
  refine ⟨ev_upr h (by decide) n, ok_up hg ?_ ?_ (by omega) (by decide) (by omega) (by omega), by unfold u_columns; rw [upr_n (by omega)]; exact Int.le_refl _⟩
  · have hn := hg.1
    unfold s_num at hn ⊢
    rw [upr_s]
    rw [upr_n (by omega), upr_n (by omega), upr_n (by omega), upr_n (by omega), upr_n (by omega), upr_n (by omega), upr_n (by omega), upr_n (by omega), upr_n (by omega), upr_n (by omega)]
    exact ⟨hc.1, hn.2⟩
  · intro w hw2
    rw [upr_n (by omega)] at hw2
    omega
theorem S_columns {n : Int}  (hn : -2147483648 ≤ n ∧ n < 2147483648) : sameC 75 156 [.inl n] := same_up (f := fun E => a_columns E n) (u := fun E => u_columns E n) (by decide) (by decide) (fun E M h1 h2 => PX_columns E M h1 h2 n  hn) (fun E M h1 h2 => PM_columns E M h1 h2 n  hn) (fun E F h1 h2 => ea_columns h1 h2) (fun E => by show (a_columns E n).1 ≤ 5; unfold a_columns; (repeat' split) <;> exact Nat.le_of_ble_eq_true rfl) (fun E F h1 h2 h3 => eu_columns h1 h2  h3)
abbrev okA (w v : Int) : Prop := (w = 0 ∧ 0 ≤ v ∧ v ≤ 25) ∨ (w = 1 ∧ 1 ≤ v ∧ v ≤ 5) ∨ (w = 2 ∧ 1 ≤ v ∧ v ≤ 600) ∨ ((w = 3 ∨ w = 4 ∨ w = 5) ∧ 0 ≤ v ∧ v ≤ 50) ∨ ((w = 6 ∨ w = 7) ∧ 0 ≤ v ∧ v ≤ 1)
theorem sv_ask : ∀ n : Nat, n < 8 → (n = 0 ∧ (en_sv.getD 2 []).getD n 0 = 0 ∧ (en_sv.getD 3 []).getD n 0 = 25) ∨ (n = 1 ∧ (en_sv.getD 2 []).getD n 0 = 1 ∧ (en_sv.getD 3 []).getD n 0 = 5) ∨ (n = 2 ∧ (en_sv.getD 2 []).getD n 0 = 1 ∧ (en_sv.getD 3 []).getD n 0 = 600) ∨ ((n = 3 ∨ n = 4 ∨ n = 5) ∧ (en_sv.getD 2 []).getD n 0 = 0 ∧ (en_sv.getD 3 []).getD n 0 = 50) ∨ ((n = 6 ∨ n = 7) ∧ (en_sv.getD 2 []).getD n 0 = 0 ∧ (en_sv.getD 3 []).getD n 0 = 1) := by decide
theorem R_mayAsk (w v : Int) (hw : -2147483648 ≤ w ∧ w < 2147483648) (hv : -2147483648 ≤ v ∧ v < 2147483648) (M : Mm) : en_Ct 2 0 162 [.inl w, .inl v] M (fun r M' => r = some (.inl (if okA w v then 1 else 0)) ∧ M' = M) := by
  refine ct_162 rfl ?_
  refine aw_162_0 ?_
  refine tb_i (a := w) (by omega) ?_
  refine ⟨fun q1 => ?_, fun q1 => ?_⟩
  · refine aw_162_40 ?_
    by_cases c2 : 0 ≤ v ∧ v ≤ 25
    · refine ⟨1, 0, by first | decide | omega, by first | decide | omega, en_Ct_t (R_in (en_wr v) 0 25 v 0 25 (wl_wr ⟨by omega, by omega⟩) (wl_of ⟨by omega, by omega⟩) (wl_of ⟨by omega, by omega⟩) _) c2 ?_⟩
      exact ⟨Or.inr rfl, by rw [if_pos (by unfold okA; omega)], rfl⟩
    · refine ⟨1, 0, by first | decide | omega, by first | decide | omega, en_Ct_f (R_in (en_wr v) 0 25 v 0 25 (wl_wr ⟨by omega, by omega⟩) (wl_of ⟨by omega, by omega⟩) (wl_of ⟨by omega, by omega⟩) _) c2 ?_⟩
      exact ⟨Or.inl rfl, by rw [if_neg (by unfold okA; omega)], rfl⟩
  · refine ⟨fun q3 => ?_, fun q3 => ?_⟩
    · refine aw_162_50 ?_
      by_cases c4 : 1 ≤ v ∧ v ≤ 5
      · refine ⟨1, 0, by first | decide | omega, by first | decide | omega, en_Ct_t (R_in (en_wr v) 1 5 v 1 5 (wl_wr ⟨by omega, by omega⟩) (wl_of ⟨by omega, by omega⟩) (wl_of ⟨by omega, by omega⟩) _) c4 ?_⟩
        exact ⟨Or.inr rfl, by rw [if_pos (by unfold okA; omega)], rfl⟩
      · refine ⟨1, 0, by first | decide | omega, by first | decide | omega, en_Ct_f (R_in (en_wr v) 1 5 v 1 5 (wl_wr ⟨by omega, by omega⟩) (wl_of ⟨by omega, by omega⟩) (wl_of ⟨by omega, by omega⟩) _) c4 ?_⟩
        exact ⟨Or.inl rfl, by rw [if_neg (by unfold okA; omega)], rfl⟩
    · refine ⟨fun q5 => ?_, fun q5 => ?_⟩
      · refine aw_162_60 ?_
        by_cases c6 : 1 ≤ v ∧ v ≤ 600
        · refine ⟨1, 0, by first | decide | omega, by first | decide | omega, en_Ct_t (R_in (en_wr v) 1 600 v 1 600 (wl_wr ⟨by omega, by omega⟩) (wl_of ⟨by omega, by omega⟩) (wl_of ⟨by omega, by omega⟩) _) c6 ?_⟩
          exact ⟨Or.inr rfl, by rw [if_pos (by unfold okA; omega)], rfl⟩
        · refine ⟨1, 0, by first | decide | omega, by first | decide | omega, en_Ct_f (R_in (en_wr v) 1 600 v 1 600 (wl_wr ⟨by omega, by omega⟩) (wl_of ⟨by omega, by omega⟩) (wl_of ⟨by omega, by omega⟩) _) c6 ?_⟩
          exact ⟨Or.inl rfl, by rw [if_neg (by unfold okA; omega)], rfl⟩
      · refine ⟨fun q7 => ?_, fun q7 => ?_⟩
        · refine aw_162_70 ?_
          by_cases c8 : 0 ≤ v ∧ v ≤ 50
          · refine ⟨1, 0, by first | decide | omega, by first | decide | omega, en_Ct_t (R_in (en_wr v) 0 50 v 0 50 (wl_wr ⟨by omega, by omega⟩) (wl_of ⟨by omega, by omega⟩) (wl_of ⟨by omega, by omega⟩) _) c8 ?_⟩
            exact ⟨Or.inr rfl, by rw [if_pos (by unfold okA; omega)], rfl⟩
          · refine ⟨1, 0, by first | decide | omega, by first | decide | omega, en_Ct_f (R_in (en_wr v) 0 50 v 0 50 (wl_wr ⟨by omega, by omega⟩) (wl_of ⟨by omega, by omega⟩) (wl_of ⟨by omega, by omega⟩) _) c8 ?_⟩
            exact ⟨Or.inl rfl, by rw [if_neg (by unfold okA; omega)], rfl⟩
        · refine ⟨fun q9 => ?_, fun q9 => ?_⟩
          · refine aw_162_70 ?_
            by_cases c10 : 0 ≤ v ∧ v ≤ 50
            · refine ⟨1, 0, by first | decide | omega, by first | decide | omega, en_Ct_t (R_in (en_wr v) 0 50 v 0 50 (wl_wr ⟨by omega, by omega⟩) (wl_of ⟨by omega, by omega⟩) (wl_of ⟨by omega, by omega⟩) _) c10 ?_⟩
              exact ⟨Or.inr rfl, by rw [if_pos (by unfold okA; omega)], rfl⟩
            · refine ⟨1, 0, by first | decide | omega, by first | decide | omega, en_Ct_f (R_in (en_wr v) 0 50 v 0 50 (wl_wr ⟨by omega, by omega⟩) (wl_of ⟨by omega, by omega⟩) (wl_of ⟨by omega, by omega⟩) _) c10 ?_⟩
              exact ⟨Or.inl rfl, by rw [if_neg (by unfold okA; omega)], rfl⟩
          · refine ⟨fun q11 => ?_, fun q11 => ?_⟩
            · refine aw_162_70 ?_
              by_cases c12 : 0 ≤ v ∧ v ≤ 50
              · refine ⟨1, 0, by first | decide | omega, by first | decide | omega, en_Ct_t (R_in (en_wr v) 0 50 v 0 50 (wl_wr ⟨by omega, by omega⟩) (wl_of ⟨by omega, by omega⟩) (wl_of ⟨by omega, by omega⟩) _) c12 ?_⟩
                exact ⟨Or.inr rfl, by rw [if_pos (by unfold okA; omega)], rfl⟩
              · refine ⟨1, 0, by first | decide | omega, by first | decide | omega, en_Ct_f (R_in (en_wr v) 0 50 v 0 50 (wl_wr ⟨by omega, by omega⟩) (wl_of ⟨by omega, by omega⟩) (wl_of ⟨by omega, by omega⟩) _) c12 ?_⟩
                exact ⟨Or.inl rfl, by rw [if_neg (by unfold okA; omega)], rfl⟩
            · refine aw_162_80 ?_
              by_cases c13 : 6 ≤ w ∧ w ≤ 7
              · refine ⟨1, 0, by first | decide | omega, by first | decide | omega, en_Ct_t (R_in (en_wr w) 6 7 w 6 7 (wl_wr ⟨by omega, by omega⟩) (wl_of ⟨by omega, by omega⟩) (wl_of ⟨by omega, by omega⟩) _) c13 ?_⟩
                refine br_eq_n (by decide) (by decide) (by decide) ?_
                by_cases c15 : 0 ≤ v ∧ v ≤ 1
                · refine ⟨1, 0, by first | decide | omega, by first | decide | omega, en_Ct_t (R_in (en_wr v) 0 1 v 0 1 (wl_wr ⟨by omega, by omega⟩) (wl_of ⟨by omega, by omega⟩) (wl_of ⟨by omega, by omega⟩) _) c15 ?_⟩
                  refine br_eq_n (by decide) (by decide) (by decide) ?_
                  refine aw_162_109 ?_
                  exact ⟨Or.inr rfl, by rw [if_pos (by unfold okA; omega)], rfl⟩
                · refine ⟨1, 0, by first | decide | omega, by first | decide | omega, en_Ct_f (R_in (en_wr v) 0 1 v 0 1 (wl_wr ⟨by omega, by omega⟩) (wl_of ⟨by omega, by omega⟩) (wl_of ⟨by omega, by omega⟩) _) c15 ?_⟩
                  refine br_eq_y (by decide) (by decide) (by decide) ?_
                  refine aw_162_108 ?_
                  refine aw_162_109 ?_
                  exact ⟨Or.inl rfl, by rw [if_neg (by unfold okA; omega)], rfl⟩
              · refine ⟨1, 0, by first | decide | omega, by first | decide | omega, en_Ct_f (R_in (en_wr w) 6 7 w 6 7 (wl_wr ⟨by omega, by omega⟩) (wl_of ⟨by omega, by omega⟩) (wl_of ⟨by omega, by omega⟩) _) c13 ?_⟩
                refine br_eq_y (by decide) (by decide) (by decide) ?_
                refine aw_162_108 ?_
                refine aw_162_109 ?_
                exact ⟨Or.inl rfl, by rw [if_neg (by unfold okA; omega)], rfl⟩
def a_ask (E : Ev) (w : Int) (v : Int) : Nat × Int := if okA w v then (0, E.1 1 w.toNat) else (1, -2)
def u_ask (E : Ev) (w : Int) (v : Int) : Ev := upr E 1 w.toNat v
theorem PX_ask (E : Ev) (M : Mm) (hI : isE M 1 E) (hg : s_ok E) (w : Int) (v : Int)  (hw : -2147483648 ≤ w ∧ w < 2147483648) (hv : -2147483648 ≤ v ∧ v < 2147483648) : en_Ct 9 0 79 [.inr (.inr (1, 5, 0)), .inl w, .inl v] M (fun r M' => r = some (.inl (a_ask E w v).2) ∧ (((a_ask E w v).1 ≠ 0 ∧ sX (aX M (a_ask E w v).1) M') ∨ ((a_ask E w v).1 = 0 ∧ xE M M' ∧ isE M' 1 (u_ask E w v)))) := by
  obtain ⟨n0, n1, n2, a0, a1, a2, a3, a4, a5, a6, a7⟩ := hg.1
  have r0 : M.1 1 0 = E.1 0 0 := r0_I hI 0
  have r1 : M.1 1 1 = E.1 0 1 := r0_I hI 1
  have r2 : M.1 1 2 = E.1 0 2 := r0_I hI 2
  have hsv : (0 ≤ w ∧ w ≤ 7) → _ := fun z => sv_ask w.toNat (by omega)
  refine ct_79 rfl ?_
  refine aw_79_0 ?_
  by_cases c1 : 0 ≤ w ∧ w ≤ 7
  · refine ⟨1, 0, by first | decide | omega, by first | decide | omega, en_Ct_t (R_within w 0 7 (by omega) (by omega) (by omega) _) c1 ?_⟩
    refine br_eq_n (by decide) (by decide) (by decide) ?_
    refine ⟨w.toNat, it_nn (x := w) (by omega), (show w.toNat < 8 by omega), ?_⟩
    refine ⟨w.toNat, it_nn (x := w) (by omega), (show w.toNat < 8 by omega), ?_⟩
    by_cases c3 : ((en_sv.getD 2 []).getD w.toNat 0) ≤ v ∧ v ≤ ((en_sv.getD 3 []).getD w.toNat 0)
    · refine ⟨1, 0, by first | decide | omega, by first | decide | omega, en_Ct_t (R_within v ((en_sv.getD 2 []).getD w.toNat 0) ((en_sv.getD 3 []).getD w.toNat 0) (by omega) (by omega) (by omega) _) c3 ?_⟩
      refine br_ne_y (by decide) (by decide) (by decide) ?_
      refine aw_79_34 ?_
      refine ⟨w.toNat, it_nn (x := w) (by omega), (show w.toNat < 8 by omega), ?_⟩
      refine ⟨w.toNat, it_nn (x := w) (by omega), (show w.toNat < 8 by omega), ?_⟩
      have ha : a_ask E w v = (0, M.1 2 w.toNat) := by
        unfold a_ask
        repeat first | rw [if_pos (by unfold okA; omega)] | rw [if_neg (by unfold okA; omega)]
        first | done | rfl | (rw [show M.1 2 = E.1 1 from hI.1 1 (by decide)])
      rw [ha]
      refine ⟨rfl, Or.inr ⟨rfl, ?_⟩⟩
      exact ⟨xE_w xE_rfl (by decide), isE_w hI (r := 1) (by decide) w.toNat v⟩
    · refine ⟨1, 0, by first | decide | omega, by first | decide | omega, en_Ct_f (R_within v ((en_sv.getD 2 []).getD w.toNat 0) ((en_sv.getD 3 []).getD w.toNat 0) (by omega) (by omega) (by omega) _) c3 ?_⟩
      refine br_ne_n (by decide) (by decide) (by decide) ?_
      refine aw_79_27 ?_
      refine ⟨2, 0, by first | decide | omega, by first | decide | omega, en_Ct_eq (R_refX (-2) (by omega) M) ?_⟩
      have ha : a_ask E w v = (1, (-2)) := by
        unfold a_ask
        repeat first | rw [if_pos (by unfold okA; omega)] | rw [if_neg (by unfold okA; omega)]
        first | done | rfl | (rw [show M.1 2 = E.1 1 from hI.1 1 (by decide)])
      rw [ha]
      exact ⟨rfl, Or.inl ⟨by decide, sX_rfl⟩⟩
  · refine ⟨1, 0, by first | decide | omega, by first | decide | omega, en_Ct_f (R_within w 0 7 (by omega) (by omega) (by omega) _) c1 ?_⟩
    refine br_eq_y (by decide) (by decide) (by decide) ?_
    refine aw_79_27 ?_
    refine ⟨2, 0, by first | decide | omega, by first | decide | omega, en_Ct_eq (R_refX (-2) (by omega) M) ?_⟩
    have ha : a_ask E w v = (1, (-2)) := by
      unfold a_ask
      repeat first | rw [if_pos (by unfold okA; omega)] | rw [if_neg (by unfold okA; omega)]
      first | done | rfl | (rw [show M.1 2 = E.1 1 from hI.1 1 (by decide)])
    rw [ha]
    exact ⟨rfl, Or.inl ⟨by decide, sX_rfl⟩⟩
theorem PM_ask (E : Ev) (M : Mm) (hJ : isM M 84 E) (hg : s_ok E) (w : Int) (v : Int)  (hw : -2147483648 ≤ w ∧ w < 2147483648) (hv : -2147483648 ≤ v ∧ v < 2147483648) : en_Ct 9 0 163 [.inr (.inr (1, 6, 84)), .inl w, .inl v] M (fun r M' => r = some (.inl (a_ask E w v).2) ∧ (((a_ask E w v).1 ≠ 0 ∧ sM (aM M (a_ask E w v).1) M') ∨ ((a_ask E w v).1 = 0 ∧ mE M M' ∧ isM M' 84 (u_ask E w v)))) := by
  obtain ⟨n0, n1, n2, a0, a1, a2, a3, a4, a5, a6, a7⟩ := hg.1
  have r0 : M.1 84 9 = E.1 0 0 := hJ.1.1
  have r1 : M.1 84 10 = E.1 0 1 := hJ.1.2.1
  have r2 : M.1 84 18 = E.1 0 2 := hJ.1.2.2.1
  refine ct_163 rfl ?_
  refine aw_163_0 ?_
  by_cases c1 : okA w v
  · refine ⟨2, 0, by first | decide | omega, by first | decide | omega, en_Ct_t (R_mayAsk w v (by omega) (by omega) _) c1 ?_⟩
    refine br_ne_y (by decide) (by decide) (by decide) ?_
    refine aw_163_15 ?_
    have hok : okA w v := ‹_›
    unfold okA at hok
    refine ⟨w.toNat, it_nn (x := w) (by omega), (show w.toNat < 8 by omega), ?_⟩
    refine ⟨w.toNat, it_nn (x := w) (by omega), (show w.toNat < 8 by omega), ?_⟩
    have ha : a_ask E w v = (0, M.1 115 w.toNat) := by
      unfold a_ask
      first | rw [if_pos ‹_›] | rw [if_neg ‹_›]
      first | done | rfl | (rw [show M.1 115 = E.1 1 from hJ.2.1.1])
    rw [ha]
    refine ⟨rfl, Or.inr ⟨rfl, ?_⟩⟩
    exact ⟨mE_w mE_rfl (by decide), isM_w hJ (by decide) w.toNat v⟩
  · refine ⟨2, 0, by first | decide | omega, by first | decide | omega, en_Ct_f (R_mayAsk w v (by omega) (by omega) _) c1 ?_⟩
    refine br_ne_n (by decide) (by decide) (by decide) ?_
    refine ⟨1, 0, by first | decide | omega, by first | decide | omega, en_Ct_eq (R_refM (-2) (by omega) M) ?_⟩
    have ha : a_ask E w v = (1, (-2)) := by
      unfold a_ask
      first | rw [if_pos ‹_›] | rw [if_neg ‹_›]
      first | done | rfl | (rw [show M.1 115 = E.1 1 from hJ.2.1.1])
    rw [ha]
    exact ⟨rfl, Or.inl ⟨by decide, sM_rfl⟩⟩
theorem ea_ask {E F : Ev} (h : evs E F) (hg : s_ok E) {w : Int} {v : Int} : a_ask E w v = a_ask F w v := by
  have hb := hg.1.2.2.1
  have hw := hg.1.2.1
  unfold a_ask
  by_cases hc : okA w v
  · rw [if_pos hc, if_pos hc, h.2.1 w.toNat (by unfold okA at hc; omega)]
  · rw [if_neg hc, if_neg hc]
theorem eu_ask {E F : Ev} (h : evs E F) (hg : s_ok E) {w : Int} {v : Int}  (h0 : (a_ask E w v).1 = 0) : evs (u_ask E w v) (u_ask F w v) ∧ s_ok (u_ask E w v) ∧ E.1 0 1 ≤ (u_ask E w v).1 0 1 := by
  have hb := hg.1.2.2.1
  have hw := hg.1.2.1
  have hc : okA w v := by
    by_cases z : okA w v
    · exact z
    · unfold a_ask at h0
      rw [if_neg z] at h0
      cases h0
  refine ⟨ev_upr h (by decide) v, ok_up hg ?_ (wok_n hg.2.1 (by omega)) (by omega) (by decide) (by omega) (by omega), by unfold u_ask; rw [upr_n (by omega)]; exact Int.le_refl _⟩
  have hn := hg.1
  unfold okA at hc
  have hc2 : w = 0 ∨ w = 1 ∨ w = 2 ∨ w = 3 ∨ w = 4 ∨ w = 5 ∨ w = 6 ∨ w = 7 := by omega
  unfold s_num at hn ⊢
  rw [upr_n (q := 0) (by omega), upr_n (q := 0) (by omega), upr_n (q := 0) (by omega)]
  refine ⟨hn.1, hn.2.1, hn.2.2.1, ?_⟩
  rcases hc2 with rfl | rfl | rfl | rfl | rfl | rfl | rfl | rfl <;> simp [upr] <;> omega
theorem S_ask {w : Int}  {v : Int}  (hw : -2147483648 ≤ w ∧ w < 2147483648) (hv : -2147483648 ≤ v ∧ v < 2147483648) : sameC 79 163 [.inl w, .inl v] := same_up (f := fun E => a_ask E w v) (u := fun E => u_ask E w v) (by decide) (by decide) (fun E M h1 h2 => PX_ask E M h1 h2 w v  hw hv) (fun E M h1 h2 => PM_ask E M h1 h2 w v  hw hv) (fun E F h1 h2 => ea_ask h1 h2) (fun E => by show (a_ask E w v).1 ≤ 5; unfold a_ask; (repeat' split) <;> exact Nat.le_of_ble_eq_true rfl) (fun E F h1 h2 h3 => eu_ask h1 h2  h3)
