def a_word (E : Ev) (k : Int) (l : Int) (c : Int) (s : Int) (a : Int) : Nat × Int := if (0 ≤ k ∧ k ≤ 5) ∧ (0 ≤ l ∧ l ≤ 25) ∧ (0 ≤ c ∧ c < E.1 0 0) ∧ (1 ≤ s ∧ s ≤ 60) ∧ 0 ≤ a ∧ a ≤ 9 then (if E.1 0 1 < 24 then (0, E.1 0 1) else (5, -6)) else (1, -2)
def u_word (E : Ev) (k : Int) (l : Int) (c : Int) (s : Int) (a : Int) : Ev := upr (upr (upr (upr (upr (upr (upr (upr E 2 (E.1 0 1).toNat k) 3 (E.1 0 1).toNat l) 4 (E.1 0 1).toNat c) 5 (E.1 0 1).toNat s) 6 (E.1 0 1).toNat a) 7 (E.1 0 1).toNat 0) 8 (E.1 0 1).toNat 0) 0 1 (E.1 0 1 + 1)
theorem PX_word (E : Ev) (M : Mm) (hI : isE M 1 E) (hg : s_ok E) (k : Int) (l : Int) (c : Int) (s : Int) (a : Int)  (hk : -2147483648 ≤ k ∧ k < 2147483648) (hl : -2147483648 ≤ l ∧ l < 2147483648) (hc : -2147483648 ≤ c ∧ c < 2147483648) (hs : -2147483648 ≤ s ∧ s < 2147483648) (ha : -2147483648 ≤ a ∧ a < 2147483648) : en_Ct 9 0 76 [.inr (.inr (1, 5, 0)), .inl k, .inl l, .inl c, .inl s, .inl a] M (fun r M' => r = some (.inl (a_word E k l c s a).2) ∧ (((a_word E k l c s a).1 ≠ 0 ∧ sX (aX M (a_word E k l c s a).1) M') ∨ ((a_word E k l c s a).1 = 0 ∧ xE M M' ∧ isE M' 1 (u_word E k l c s a)))) := by
  obtain ⟨n0, n1, n2, a0, a1, a2, a3, a4, a5, a6, a7⟩ := hg.1
  have r0 : M.1 1 0 = E.1 0 0 := r0_I hI 0
  have r1 : M.1 1 1 = E.1 0 1 := r0_I hI 1
  have r2 : M.1 1 2 = E.1 0 2 := r0_I hI 2
  refine ct_76 rfl ?_
  refine aw_76_0 ?_
  by_cases c1 : 0 ≤ k ∧ k ≤ 5
  · refine ⟨1, 0, by first | decide | omega, by first | decide | omega, en_Ct_t (R_within k 0 5 (by omega) (by omega) (by omega) _) c1 ?_⟩
    refine br_eq_n (by decide) (by decide) (by decide) ?_
    by_cases c3 : 0 ≤ l ∧ l ≤ 25
    · refine ⟨2, 0, by first | decide | omega, by first | decide | omega, en_Ct_t (R_isLetter l (by omega) _) c3 ?_⟩
      refine br_eq_n (by decide) (by decide) (by decide) ?_
      by_cases c5 : 0 ≤ c ∧ c < E.1 0 0
      · refine ⟨2, 0, by first | decide | omega, by first | decide | omega, en_Ct_t (X_isColumn (M := M) (e := 1) (E := E) hI hg (x := c) (by omega)) c5 ?_⟩
        refine br_eq_n (by decide) (by decide) (by decide) ?_
        by_cases c7 : 1 ≤ s ∧ s ≤ 60
        · refine ⟨1, 0, by first | decide | omega, by first | decide | omega, en_Ct_t (R_within s 1 60 (by omega) (by omega) (by omega) _) c7 ?_⟩
          refine br_eq_n (by decide) (by decide) (by decide) ?_
          by_cases c9 : 0 ≤ a ∧ a ≤ 9
          · refine ⟨1, 0, by first | decide | omega, by first | decide | omega, en_Ct_t (R_within a 0 9 (by omega) (by omega) (by omega) _) c9 ?_⟩
            refine br_ne_y (by decide) (by decide) (by decide) ?_
            refine aw_76_56 ?_
            by_cases c11 : M.1 1 1 < 24
            · refine ⟨1, 0, by first | decide | omega, by first | decide | omega, en_Ct_t (R_hasRoomW 1 _ (tr_num hI hg.1)) c11 ?_⟩
              refine br_ne_y (by decide) (by decide) (by decide) ?_
              refine aw_76_73 ?_
              refine ⟨1, 0, by first | decide | omega, by first | decide | omega, en_Ct_eq (R_addWord 1 k l c s a M (tr_num hI hg.1) (by omega)) ?_⟩
              have ha : a_word E k l c s a = (0, M.1 1 1) := by
                unfold a_word
                repeat first | rw [if_pos (by omega)] | rw [if_neg (by omega)]
                first | done | rfl | (rw [r1])
              rw [ha]
              refine ⟨rfl, Or.inr ⟨rfl, ?_⟩⟩
              refine ⟨xE_w (xE_w (xE_w (xE_w (xE_w (xE_w (xE_w (xE_w xE_rfl (by decide)) (by decide)) (by decide)) (by decide)) (by decide)) (by decide)) (by decide)) (by decide), ?_⟩
              unfold u_word
              rw [← r1]
              exact isE_w (isE_w (isE_w (isE_w (isE_w (isE_w (isE_w (isE_w hI (r := 2) (by decide) _ _) (r := 3) (by decide) _ _) (r := 4) (by decide) _ _) (r := 5) (by decide) _ _) (r := 6) (by decide) _ _) (r := 7) (by decide) _ _) (r := 8) (by decide) _ _) (r := 0) (by decide) 1 _
            · refine ⟨1, 0, by first | decide | omega, by first | decide | omega, en_Ct_f (R_hasRoomW 1 _ (tr_num hI hg.1)) c11 ?_⟩
              refine br_ne_n (by decide) (by decide) (by decide) ?_
              refine ⟨2, 0, by first | decide | omega, by first | decide | omega, en_Ct_eq (R_refX (-6) (by omega) M) ?_⟩
              have ha : a_word E k l c s a = (5, (-6)) := by
                unfold a_word
                repeat first | rw [if_pos (by omega)] | rw [if_neg (by omega)]
                first | done | rfl | (rw [r1])
              rw [ha]
              exact ⟨rfl, Or.inl ⟨by decide, sX_rfl⟩⟩
          · refine ⟨1, 0, by first | decide | omega, by first | decide | omega, en_Ct_f (R_within a 0 9 (by omega) (by omega) (by omega) _) c9 ?_⟩
            refine br_ne_n (by decide) (by decide) (by decide) ?_
            refine aw_76_49 ?_
            refine ⟨2, 0, by first | decide | omega, by first | decide | omega, en_Ct_eq (R_refX (-2) (by omega) M) ?_⟩
            have ha : a_word E k l c s a = (1, (-2)) := by
              unfold a_word
              repeat first | rw [if_pos (by omega)] | rw [if_neg (by omega)]
              first | done | rfl | (rw [r1])
            rw [ha]
            exact ⟨rfl, Or.inl ⟨by decide, sX_rfl⟩⟩
        · refine ⟨1, 0, by first | decide | omega, by first | decide | omega, en_Ct_f (R_within s 1 60 (by omega) (by omega) (by omega) _) c7 ?_⟩
          refine br_eq_y (by decide) (by decide) (by decide) ?_
          refine aw_76_49 ?_
          refine ⟨2, 0, by first | decide | omega, by first | decide | omega, en_Ct_eq (R_refX (-2) (by omega) M) ?_⟩
          have ha : a_word E k l c s a = (1, (-2)) := by
            unfold a_word
            repeat first | rw [if_pos (by omega)] | rw [if_neg (by omega)]
            first | done | rfl | (rw [r1])
          rw [ha]
          exact ⟨rfl, Or.inl ⟨by decide, sX_rfl⟩⟩
      · refine ⟨2, 0, by first | decide | omega, by first | decide | omega, en_Ct_f (X_isColumn (M := M) (e := 1) (E := E) hI hg (x := c) (by omega)) c5 ?_⟩
        refine br_eq_y (by decide) (by decide) (by decide) ?_
        refine aw_76_49 ?_
        refine ⟨2, 0, by first | decide | omega, by first | decide | omega, en_Ct_eq (R_refX (-2) (by omega) M) ?_⟩
        have ha : a_word E k l c s a = (1, (-2)) := by
          unfold a_word
          repeat first | rw [if_pos (by omega)] | rw [if_neg (by omega)]
          first | done | rfl | (rw [r1])
        rw [ha]
        exact ⟨rfl, Or.inl ⟨by decide, sX_rfl⟩⟩
    · refine ⟨2, 0, by first | decide | omega, by first | decide | omega, en_Ct_f (R_isLetter l (by omega) _) c3 ?_⟩
      refine br_eq_y (by decide) (by decide) (by decide) ?_
      refine aw_76_49 ?_
      refine ⟨2, 0, by first | decide | omega, by first | decide | omega, en_Ct_eq (R_refX (-2) (by omega) M) ?_⟩
      have ha : a_word E k l c s a = (1, (-2)) := by
        unfold a_word
        repeat first | rw [if_pos (by omega)] | rw [if_neg (by omega)]
        first | done | rfl | (rw [r1])
      rw [ha]
      exact ⟨rfl, Or.inl ⟨by decide, sX_rfl⟩⟩
  · refine ⟨1, 0, by first | decide | omega, by first | decide | omega, en_Ct_f (R_within k 0 5 (by omega) (by omega) (by omega) _) c1 ?_⟩
    refine br_eq_y (by decide) (by decide) (by decide) ?_
    refine aw_76_49 ?_
    refine ⟨2, 0, by first | decide | omega, by first | decide | omega, en_Ct_eq (R_refX (-2) (by omega) M) ?_⟩
    have ha : a_word E k l c s a = (1, (-2)) := by
      unfold a_word
      repeat first | rw [if_pos (by omega)] | rw [if_neg (by omega)]
      first | done | rfl | (rw [r1])
    rw [ha]
    exact ⟨rfl, Or.inl ⟨by decide, sX_rfl⟩⟩
theorem PM_word (E : Ev) (M : Mm) (hJ : isM M 84 E) (hg : s_ok E) (k : Int) (l : Int) (c : Int) (s : Int) (a : Int)  (hk : -2147483648 ≤ k ∧ k < 2147483648) (hl : -2147483648 ≤ l ∧ l < 2147483648) (hc : -2147483648 ≤ c ∧ c < 2147483648) (hs : -2147483648 ≤ s ∧ s < 2147483648) (ha : -2147483648 ≤ a ∧ a < 2147483648) : en_Ct 9 0 158 [.inr (.inr (1, 6, 84)), .inl k, .inl l, .inl c, .inl s, .inl a] M (fun r M' => r = some (.inl (a_word E k l c s a).2) ∧ (((a_word E k l c s a).1 ≠ 0 ∧ sM (aM M (a_word E k l c s a).1) M') ∨ ((a_word E k l c s a).1 = 0 ∧ mE M M' ∧ isM M' 84 (u_word E k l c s a)))) := by
  obtain ⟨n0, n1, n2, a0, a1, a2, a3, a4, a5, a6, a7⟩ := hg.1
  have r0 : M.1 84 9 = E.1 0 0 := hJ.1.1
  have r1 : M.1 84 10 = E.1 0 1 := hJ.1.2.1
  have r2 : M.1 84 18 = E.1 0 2 := hJ.1.2.2.1
  refine ct_158 rfl ?_
  refine aw_158_0 ?_
  by_cases c1 : 0 ≤ k ∧ k ≤ 5
  · refine ⟨1, 0, by first | decide | omega, by first | decide | omega, en_Ct_t (R_in (en_wr k) 0 5 k 0 5 (wl_wr ⟨by omega, by omega⟩) (wl_of ⟨by omega, by omega⟩) (wl_of ⟨by omega, by omega⟩) _) c1 ?_⟩
    refine br_eq_n (by decide) (by decide) (by decide) ?_
    by_cases c3 : 0 ≤ l ∧ l ≤ 25
    · refine ⟨1, 0, by first | decide | omega, by first | decide | omega, en_Ct_t (R_in (en_wr l) 0 25 l 0 25 (wl_wr ⟨by omega, by omega⟩) (wl_of ⟨by omega, by omega⟩) (wl_of ⟨by omega, by omega⟩) _) c3 ?_⟩
      refine br_eq_n (by decide) (by decide) (by decide) ?_
      by_cases c5 : 0 ≤ c ∧ c ≤ ((M.1 84 9) - 1)
      · refine ⟨1, 0, by first | decide | omega, by first | decide | omega, en_Ct_t (R_in (en_wr c) 0 (en_wr ((M.1 84 9) - 1)) c 0 ((M.1 84 9) - 1) (wl_wr ⟨by omega, by omega⟩) (wl_of ⟨by omega, by omega⟩) (wl_wr ⟨by omega, by omega⟩) _) c5 ?_⟩
        refine br_eq_n (by decide) (by decide) (by decide) ?_
        by_cases c7 : 1 ≤ s ∧ s ≤ 60
        · refine ⟨1, 0, by first | decide | omega, by first | decide | omega, en_Ct_t (R_in (en_wr s) 1 60 s 1 60 (wl_wr ⟨by omega, by omega⟩) (wl_of ⟨by omega, by omega⟩) (wl_of ⟨by omega, by omega⟩) _) c7 ?_⟩
          refine br_eq_n (by decide) (by decide) (by decide) ?_
          by_cases c9 : 0 ≤ a ∧ a ≤ 9
          · refine ⟨1, 0, by first | decide | omega, by first | decide | omega, en_Ct_t (R_in (en_wr a) 0 9 a 0 9 (wl_wr ⟨by omega, by omega⟩) (wl_of ⟨by omega, by omega⟩) (wl_of ⟨by omega, by omega⟩) _) c9 ?_⟩
            refine br_ne_y (by decide) (by decide) (by decide) ?_
            refine aw_158_73 ?_
            refine br_ne (a := M.1 84 10) (b := 24) (by omega) (by omega) (fun q11 => ?_) (fun q11 => ?_)
            · refine aw_158_89 ?_
              refine ⟨1, 0, by first | decide | omega, by first | decide | omega, en_Ct_eq (R_addWordM k l c s a M (by omega) (by omega)) ?_⟩
              have ha : a_word E k l c s a = (0, ((addWM M k l c s a).1 84 10) - 1) := by
                unfold a_word
                repeat first | rw [if_pos (by omega)] | rw [if_neg (by omega)]
                first | done | rfl | (exact congrArg (fun z : Int => (0, z)) (by rw [← r1]; show M.1 84 10 = M.1 84 10 + 1 - 1; omega))
              rw [ha]
              refine ⟨rfl, Or.inr ⟨rfl, ?_⟩⟩
              refine ⟨mE_w0 (mE_w (mE_w (mE_w (mE_w (mE_w (mE_w (mE_w mE_rfl (by decide)) (by decide)) (by decide)) (by decide)) (by decide)) (by decide)) (by decide)) (by decide), ?_⟩
              unfold u_word
              rw [← r1]
              exact isM_w0 (isM_w (isM_w (isM_w (isM_w (isM_w (isM_w (isM_w hJ (a := 101) (r := 2) (by decide) _ _) (a := 102) (r := 3) (by decide) _ _) (a := 103) (r := 4) (by decide) _ _) (a := 104) (r := 5) (by decide) _ _) (a := 105) (r := 6) (by decide) _ _) (a := 106) (r := 7) (by decide) _ _) (a := 107) (r := 8) (by decide) _ _) (by decide) _
            · refine ⟨1, 0, by first | decide | omega, by first | decide | omega, en_Ct_eq (R_refM (-6) (by omega) M) ?_⟩
              have ha : a_word E k l c s a = (5, (-6)) := by
                unfold a_word
                repeat first | rw [if_pos (by omega)] | rw [if_neg (by omega)]
                first | done | rfl | (exact congrArg (fun z : Int => (0, z)) (by rw [← r1]; show M.1 84 10 = M.1 84 10 + 1 - 1; omega))
              rw [ha]
              exact ⟨rfl, Or.inl ⟨by decide, sM_rfl⟩⟩
          · refine ⟨1, 0, by first | decide | omega, by first | decide | omega, en_Ct_f (R_in (en_wr a) 0 9 a 0 9 (wl_wr ⟨by omega, by omega⟩) (wl_of ⟨by omega, by omega⟩) (wl_of ⟨by omega, by omega⟩) _) c9 ?_⟩
            refine br_ne_n (by decide) (by decide) (by decide) ?_
            refine aw_158_66 ?_
            refine ⟨1, 0, by first | decide | omega, by first | decide | omega, en_Ct_eq (R_refM (-2) (by omega) M) ?_⟩
            have ha : a_word E k l c s a = (1, (-2)) := by
              unfold a_word
              repeat first | rw [if_pos (by omega)] | rw [if_neg (by omega)]
              first | done | rfl | (exact congrArg (fun z : Int => (0, z)) (by rw [← r1]; show M.1 84 10 = M.1 84 10 + 1 - 1; omega))
            rw [ha]
            exact ⟨rfl, Or.inl ⟨by decide, sM_rfl⟩⟩
        · refine ⟨1, 0, by first | decide | omega, by first | decide | omega, en_Ct_f (R_in (en_wr s) 1 60 s 1 60 (wl_wr ⟨by omega, by omega⟩) (wl_of ⟨by omega, by omega⟩) (wl_of ⟨by omega, by omega⟩) _) c7 ?_⟩
          refine br_eq_y (by decide) (by decide) (by decide) ?_
          refine aw_158_66 ?_
          refine ⟨1, 0, by first | decide | omega, by first | decide | omega, en_Ct_eq (R_refM (-2) (by omega) M) ?_⟩
          have ha : a_word E k l c s a = (1, (-2)) := by
            unfold a_word
            repeat first | rw [if_pos (by omega)] | rw [if_neg (by omega)]
            first | done | rfl | (exact congrArg (fun z : Int => (0, z)) (by rw [← r1]; show M.1 84 10 = M.1 84 10 + 1 - 1; omega))
          rw [ha]
          exact ⟨rfl, Or.inl ⟨by decide, sM_rfl⟩⟩
      · refine ⟨1, 0, by first | decide | omega, by first | decide | omega, en_Ct_f (R_in (en_wr c) 0 (en_wr ((M.1 84 9) - 1)) c 0 ((M.1 84 9) - 1) (wl_wr ⟨by omega, by omega⟩) (wl_of ⟨by omega, by omega⟩) (wl_wr ⟨by omega, by omega⟩) _) c5 ?_⟩
        refine br_eq_y (by decide) (by decide) (by decide) ?_
        refine aw_158_66 ?_
        refine ⟨1, 0, by first | decide | omega, by first | decide | omega, en_Ct_eq (R_refM (-2) (by omega) M) ?_⟩
        have ha : a_word E k l c s a = (1, (-2)) := by
          unfold a_word
          repeat first | rw [if_pos (by omega)] | rw [if_neg (by omega)]
          first | done | rfl | (exact congrArg (fun z : Int => (0, z)) (by rw [← r1]; show M.1 84 10 = M.1 84 10 + 1 - 1; omega))
        rw [ha]
        exact ⟨rfl, Or.inl ⟨by decide, sM_rfl⟩⟩
    · refine ⟨1, 0, by first | decide | omega, by first | decide | omega, en_Ct_f (R_in (en_wr l) 0 25 l 0 25 (wl_wr ⟨by omega, by omega⟩) (wl_of ⟨by omega, by omega⟩) (wl_of ⟨by omega, by omega⟩) _) c3 ?_⟩
      refine br_eq_y (by decide) (by decide) (by decide) ?_
      refine aw_158_66 ?_
      refine ⟨1, 0, by first | decide | omega, by first | decide | omega, en_Ct_eq (R_refM (-2) (by omega) M) ?_⟩
      have ha : a_word E k l c s a = (1, (-2)) := by
        unfold a_word
        repeat first | rw [if_pos (by omega)] | rw [if_neg (by omega)]
        first | done | rfl | (exact congrArg (fun z : Int => (0, z)) (by rw [← r1]; show M.1 84 10 = M.1 84 10 + 1 - 1; omega))
      rw [ha]
      exact ⟨rfl, Or.inl ⟨by decide, sM_rfl⟩⟩
  · refine ⟨1, 0, by first | decide | omega, by first | decide | omega, en_Ct_f (R_in (en_wr k) 0 5 k 0 5 (wl_wr ⟨by omega, by omega⟩) (wl_of ⟨by omega, by omega⟩) (wl_of ⟨by omega, by omega⟩) _) c1 ?_⟩
    refine br_eq_y (by decide) (by decide) (by decide) ?_
    refine aw_158_66 ?_
    refine ⟨1, 0, by first | decide | omega, by first | decide | omega, en_Ct_eq (R_refM (-2) (by omega) M) ?_⟩
    have ha : a_word E k l c s a = (1, (-2)) := by
      unfold a_word
      repeat first | rw [if_pos (by omega)] | rw [if_neg (by omega)]
      first | done | rfl | (exact congrArg (fun z : Int => (0, z)) (by rw [← r1]; show M.1 84 10 = M.1 84 10 + 1 - 1; omega))
    rw [ha]
    exact ⟨rfl, Or.inl ⟨by decide, sM_rfl⟩⟩
theorem ea_word {E F : Ev} (h : evs E F) (hg : s_ok E) {k : Int} {l : Int} {c : Int} {s : Int} {a : Int} : a_word E k l c s a = a_word F k l c s a := by
  have hb := hg.1.2.2.1
  have hw := hg.1.2.1
  unfold a_word
  rw [h.1 1 (by decide), h.1 0 (by decide)]
theorem eu_word {E F : Ev} (h : evs E F) (hg : s_ok E) {k : Int} {l : Int} {c : Int} {s : Int} {a : Int}  (h0 : (a_word E k l c s a).1 = 0) : evs (u_word E k l c s a) (u_word F k l c s a) ∧ s_ok (u_word E k l c s a) ∧ E.1 0 1 ≤ (u_word E k l c s a).1 0 1 := by
  have hb := hg.1.2.2.1
  have hw := hg.1.2.1
  have hc : ((0 ≤ k ∧ k ≤ 5) ∧ (0 ≤ l ∧ l ≤ 25) ∧ (0 ≤ c ∧ c < E.1 0 0) ∧ (1 ≤ s ∧ s ≤ 60) ∧ 0 ≤ a ∧ a ≤ 9) ∧ E.1 0 1 < 24 := by
    unfold a_word at h0
    by_cases z1 : (0 ≤ k ∧ k ≤ 5) ∧ (0 ≤ l ∧ l ≤ 25) ∧ (0 ≤ c ∧ c < E.1 0 0) ∧ (1 ≤ s ∧ s ≤ 60) ∧ 0 ≤ a ∧ a ≤ 9
    · by_cases z2 : E.1 0 1 < 24
      · exact ⟨z1, z2⟩
      · rw [if_pos z1, if_neg z2] at h0
        cases h0
    · rw [if_neg z1] at h0
      cases h0
  obtain ⟨⟨c1, c2, c3, c4, c5⟩, c6⟩ := hc
  obtain ⟨g1, g2, g3, g4, g5⟩ := hg
  have hr0 : ∀ j, j ≠ 1 → (u_word E k l c s a).1 0 j = E.1 0 j := fun j hj => by simp [u_word, upr, hj]
  have hr01 : (u_word E k l c s a).1 0 1 = E.1 0 1 + 1 := by simp [u_word, upr]
  have hrn : ∀ q j, q ≠ 0 → j ≠ (E.1 0 1).toNat → (u_word E k l c s a).1 q j = E.1 q j := fun q j hq hj => by
    unfold u_word
    rw [upr_n (by omega), upr_n (by omega), upr_n (by omega), upr_n (by omega), upr_n (by omega), upr_n (by omega), upr_n (by omega), upr_n (by omega)]
  have hrq : ∀ q j, q = 1 ∨ q = 14 ∨ q = 15 → (u_word E k l c s a).1 q j = E.1 q j := fun q j hq => by
    unfold u_word
    rw [upr_n (by omega), upr_n (by omega), upr_n (by omega), upr_n (by omega), upr_n (by omega), upr_n (by omega), upr_n (by omega), upr_n (by omega)]
  have hr2 : (u_word E k l c s a).2 = E.2 := rfl
  refine ⟨?_, ⟨?_, fun w hw2 => ?_, fun p hp => ?_, fun p hp i j hij hj => ?_, fun i hi => ?_⟩, ?_⟩
  · unfold u_word
    rw [← h.1 1 (by decide)]
    exact ev_upr (ev_upr (ev_upr (ev_upr (ev_upr (ev_upr (ev_upr (ev_upr h (by decide) _) (by decide) _) (by decide) _) (by decide) _) (by decide) _) (by decide) _) (by decide) _) (by decide) _
  · unfold s_num at g1 ⊢
    rw [hr0 0 (by decide), hr0 2 (by decide), hr01, hrq 1 0 (by omega), hrq 1 1 (by omega), hrq 1 2 (by omega), hrq 1 3 (by omega), hrq 1 4 (by omega), hrq 1 5 (by omega), hrq 1 6 (by omega), hrq 1 7 (by omega)]
    exact ⟨g1.1, by omega, g1.2.2⟩
  · rw [hr01] at hw2
    unfold s_word
    rw [hr0 0 (by decide)]
    by_cases hww : w = (E.1 0 1).toNat
    · subst hww
      refine ⟨?_, ?_, ?_, ?_, ?_, ?_, ?_⟩ <;> simp [u_word, upr] <;> omega
    · have := g2 w (by omega)
      unfold s_word at this
      rw [hrn 2 w (by decide) hww, hrn 3 w (by decide) hww, hrn 4 w (by decide) hww, hrn 5 w (by decide) hww, hrn 6 w (by decide) hww, hrn 7 w (by decide) hww, hrn 8 w (by decide) hww]
      exact this
  · obtain ⟨z1, z2⟩ := g3 p hp
    unfold s_sh
    rw [hrq 14 p (by omega), hr01, hr2]
    exact ⟨z1, fun i hi => by have := z2 i hi; omega⟩
  · obtain ⟨z1, z2⟩ := g3 p hp
    rw [hrq 14 p (by omega)] at hj
    rw [hr2]
    have y1 := z2 i (by omega)
    have y2 := z2 j (by omega)
    rw [hrn 4 _ (by decide) (by omega), hrn 4 _ (by decide) (by omega)]
    exact g4 p hp i j hij hj
  · by_cases hww : i = (E.1 0 1).toNat
    · subst hww
      exact Or.inl (by simp [u_word, upr])
    · rw [hrn 8 i (by decide) hww]
      exact g5 i hi
  · rw [hr01]
    omega
theorem S_word {k : Int}  {l : Int}  {c : Int}  {s : Int}  {a : Int}  (hk : -2147483648 ≤ k ∧ k < 2147483648) (hl : -2147483648 ≤ l ∧ l < 2147483648) (hc : -2147483648 ≤ c ∧ c < 2147483648) (hs : -2147483648 ≤ s ∧ s < 2147483648) (ha : -2147483648 ≤ a ∧ a < 2147483648) : sameC 76 158 [.inl k, .inl l, .inl c, .inl s, .inl a] := same_up (f := fun E => a_word E k l c s a) (u := fun E => u_word E k l c s a) (by decide) (by decide) (fun E M h1 h2 => PX_word E M h1 h2 k l c s a  hk hl hc hs ha) (fun E M h1 h2 => PM_word E M h1 h2 k l c s a  hk hl hc hs ha) (fun E F h1 h2 => ea_word h1 h2) (fun E => by show (a_word E k l c s a).1 ≤ 5; unfold a_word; (repeat' split) <;> exact Nat.le_of_ble_eq_true rfl) (fun E F h1 h2 h3 => eu_word h1 h2  h3)
