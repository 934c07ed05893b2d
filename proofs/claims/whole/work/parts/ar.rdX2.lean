theorem C_word (f : Nat → Int) (Z : Nat) (E : Ev) (hg : s_ok E) (M : Mm) (k : Tk) (h : rdI f Z E M M k 0) (hW : E.1 0 1 < 24) : en_Ct 5 0 52 [.inr (.inr (1, 3, 61)), .inr (.inr (1, 1, 33))] M (fun r M' => outC f Z M M' (sWord f Z E (tok f Z k.2.2)) r) := by
  obtain ⟨n0, n1, n2, -⟩ := hg.1
  refine ct_52 rfl ?_
  refine aw_52_0 ?_
  refine ⟨3, 0, by first | decide | omega, by first | decide | omega, en_Ct_mono (C_step h) ?_⟩
  rintro _ K1 ⟨rfl, hK1, nK1, lK1⟩
  by_cases c3 : numO f (tok f Z k.2.2) 0 5
  · refine ⟨4, 0, by first | decide | omega, by first | decide | omega, en_Ct_mono (C_rnT hK1 (by decide) (lo := 0) (hi := 5) (by omega) (by omega) c3) ?_⟩
    rintro _ K2 ⟨rfl, hK2, nK2, lK2⟩
    refine br_eq_n (by decide) (by decide) (by decide) ?_
    by_cases c6 : numO f (tok f Z (tok f Z k.2.2).2.2) 0 25
    · refine ⟨4, 0, by first | decide | omega, by first | decide | omega, en_Ct_mono (C_rnT hK2 (by decide) (lo := 0) (hi := 25) (by omega) (by omega) c6) ?_⟩
      rintro _ K5 ⟨rfl, hK5, nK5, lK5⟩
      refine br_eq_n (by decide) (by decide) (by decide) ?_
      have e0K5 : K5.1 33 0 = E.1 0 0 := r0_I hK5.2.2.2.2.2.1 0
      by_cases c9 : numO f (tok f Z (tok f Z (tok f Z k.2.2).2.2).2.2) 0 (E.1 0 0 - 1)
      · refine ⟨4, 0, by first | decide | omega, by first | decide | omega, en_Ct_mono (C_rnT hK5 (by decide) (lo := 0) (hi := (K5.1 33 0) - 1) (by omega) (by omega) (by rw [e0K5]; exact c9)) ?_⟩
        rintro _ K8 ⟨rfl, hK8, nK8, lK8⟩
        refine br_eq_n (by decide) (by decide) (by decide) ?_
        by_cases c12 : numO f (tok f Z (tok f Z (tok f Z (tok f Z k.2.2).2.2).2.2).2.2) 1 60
        · refine ⟨4, 0, by first | decide | omega, by first | decide | omega, en_Ct_mono (C_rnT hK8 (by decide) (lo := 1) (hi := 60) (by omega) (by omega) c12) ?_⟩
          rintro _ K11 ⟨rfl, hK11, nK11, lK11⟩
          refine br_eq_n (by decide) (by decide) (by decide) ?_
          by_cases c15 : numO f (tok f Z (tok f Z (tok f Z (tok f Z (tok f Z k.2.2).2.2).2.2).2.2).2.2) 0 9
          · refine ⟨4, 0, by first | decide | omega, by first | decide | omega, en_Ct_mono (C_rnT hK11 (by decide) (lo := 0) (hi := 9) (by omega) (by omega) c15) ?_⟩
            rintro _ K14 ⟨rfl, hK14, nK14, lK14⟩
            refine br_ne_y (by decide) (by decide) (by decide) ?_
            refine aw_52_59 ?_
            refine ⟨0, rfl, (show 0 < 5 by omega), ?_⟩
            refine ⟨1, rfl, (show 1 < 5 by omega), ?_⟩
            refine ⟨2, rfl, (show 2 < 5 by omega), ?_⟩
            refine ⟨3, rfl, (show 3 < 5 by omega), ?_⟩
            refine ⟨4, rfl, (show 4 < 5 by omega), ?_⟩
            refine ⟨1, 0, by first | decide | omega, by first | decide | omega, en_Ct_eq (R_addWord 33 (K14.1 63 0) (K14.1 63 1) (K14.1 63 2) (K14.1 63 3) (K14.1 63 4) K14 (tr_num hK14.2.2.2.2.2.1 hg.1) (by rw [r0_I hK14.2.2.2.2.2.1 1]; exact hW)) ?_⟩
            have v0 : K14.1 63 0 = vl f (tok f Z k.2.2) := (nK14 0).trans ((if_neg (by decide)).trans ((nK11 0).trans ((if_neg (by decide)).trans ((nK8 0).trans ((if_neg (by decide)).trans ((nK5 0).trans ((if_neg (by decide)).trans ((nK2 0).trans (if_pos rfl)))))))))
            have v1 : K14.1 63 1 = vl f (tok f Z (tok f Z k.2.2).2.2) := (nK14 1).trans ((if_neg (by decide)).trans ((nK11 1).trans ((if_neg (by decide)).trans ((nK8 1).trans ((if_neg (by decide)).trans ((nK5 1).trans (if_pos rfl)))))))
            have v2 : K14.1 63 2 = vl f (tok f Z (tok f Z (tok f Z k.2.2).2.2).2.2) := (nK14 2).trans ((if_neg (by decide)).trans ((nK11 2).trans ((if_neg (by decide)).trans ((nK8 2).trans (if_pos rfl)))))
            have v3 : K14.1 63 3 = vl f (tok f Z (tok f Z (tok f Z (tok f Z k.2.2).2.2).2.2).2.2) := (nK14 3).trans ((if_neg (by decide)).trans ((nK11 3).trans (if_pos rfl)))
            have v4 : K14.1 63 4 = vl f (tok f Z (tok f Z (tok f Z (tok f Z (tok f Z k.2.2).2.2).2.2).2.2).2.2) := (nK14 4).trans (if_pos rfl)
            have e1 : K14.1 33 1 = E.1 0 1 := r0_I hK14.2.2.2.2.2.1 1
            refine ⟨Or.inr rfl, out_so (X := u_word E (vl f (tok f Z k.2.2)) (vl f (tok f Z (tok f Z k.2.2).2.2)) (vl f (tok f Z (tok f Z (tok f Z k.2.2).2.2).2.2)) (vl f (tok f Z (tok f Z (tok f Z (tok f Z k.2.2).2.2).2.2).2.2)) (vl f (tok f Z (tok f Z (tok f Z (tok f Z (tok f Z k.2.2).2.2).2.2).2.2).2.2))) hK14 (by unfold sWord; exact (rn_t c3).trans ((rn_t c6).trans ((rn_t c9).trans ((rn_t c12).trans (rn_t c15))))) ?_ ?_ ?_ ?_⟩
            · unfold addW
              repeat first | exact hK14.2.2.2.2.2.2 | refine frG_w ?_ (by decide)
            · unfold addW
              repeat rw [wI_ne (by decide)]
            · unfold addW
              repeat rw [wI_ne (by decide)]
            · unfold addW u_word
              rw [e1, v0, v1, v2, v3, v4]
              exact isE_w (isE_w (isE_w (isE_w (isE_w (isE_w (isE_w (isE_w hK14.2.2.2.2.2.1 (r := 2) (by decide) _ _) (r := 3) (by decide) _ _) (r := 4) (by decide) _ _) (r := 5) (by decide) _ _) (r := 6) (by decide) _ _) (r := 7) (by decide) _ _) (r := 8) (by decide) _ _) (r := 0) (by decide) 1 _
          · refine ⟨4, 0, by first | decide | omega, by first | decide | omega, en_Ct_eq (C_rnF hK11 (by decide) (lo := 0) (hi := 9) (by omega) (by omega) c15) ?_⟩
            refine br_ne_n (by decide) (by decide) (by decide) ?_
            refine aw_52_57 ?_
            exact ⟨Or.inl rfl, out_no hK11 (by unfold sWord; exact (rn_t c3).trans ((rn_t c6).trans ((rn_t c9).trans ((rn_t c12).trans (rn_f c15)))))⟩
        · refine ⟨4, 0, by first | decide | omega, by first | decide | omega, en_Ct_eq (C_rnF hK8 (by decide) (lo := 1) (hi := 60) (by omega) (by omega) c12) ?_⟩
          refine br_eq_y (by decide) (by decide) (by decide) ?_
          refine aw_52_57 ?_
          exact ⟨Or.inl rfl, out_no hK8 (by unfold sWord; exact (rn_t c3).trans ((rn_t c6).trans ((rn_t c9).trans (rn_f c12))))⟩
      · refine ⟨4, 0, by first | decide | omega, by first | decide | omega, en_Ct_eq (C_rnF hK5 (by decide) (lo := 0) (hi := (K5.1 33 0) - 1) (by omega) (by omega) (by rw [e0K5]; exact c9)) ?_⟩
        refine br_eq_y (by decide) (by decide) (by decide) ?_
        refine aw_52_57 ?_
        exact ⟨Or.inl rfl, out_no hK5 (by unfold sWord; exact (rn_t c3).trans ((rn_t c6).trans (rn_f c9)))⟩
    · refine ⟨4, 0, by first | decide | omega, by first | decide | omega, en_Ct_eq (C_rnF hK2 (by decide) (lo := 0) (hi := 25) (by omega) (by omega) c6) ?_⟩
      refine br_eq_y (by decide) (by decide) (by decide) ?_
      refine aw_52_57 ?_
      exact ⟨Or.inl rfl, out_no hK2 (by unfold sWord; exact (rn_t c3).trans (rn_f c6))⟩
  · refine ⟨4, 0, by first | decide | omega, by first | decide | omega, en_Ct_eq (C_rnF hK1 (by decide) (lo := 0) (hi := 5) (by omega) (by omega) c3) ?_⟩
    refine br_eq_y (by decide) (by decide) (by decide) ?_
    refine aw_52_57 ?_
    exact ⟨Or.inl rfl, out_no hK1 (by unfold sWord; exact rn_f c3)⟩
theorem C_per (f : Nat → Int) (Z : Nat) (E : Ev) (hg : s_ok E) (M : Mm) (k : Tk) (h : rdI f Z E M M k 0) (hP : E.1 0 2 < 4) : en_Ct 5 0 53 [.inr (.inr (1, 3, 61)), .inr (.inr (1, 1, 33))] M (fun r M' => outC f Z M M' (some (u_person E), tok f Z k.2.2) r) := by
  obtain ⟨n0, n1, n2, -⟩ := hg.1
  refine ct_53 rfl ?_
  refine aw_53_0 ?_
  refine ⟨3, 0, by first | decide | omega, by first | decide | omega, en_Ct_mono (C_step h) ?_⟩
  rintro _ K1 ⟨rfl, hK1, nK1, lK1⟩
  refine ⟨1, 0, by first | decide | omega, by first | decide | omega, en_Ct_eq (R_addPerson 33 K1 (tr_num hK1.2.2.2.2.2.1 hg.1) (by rw [r0_I hK1.2.2.2.2.2.1 2]; exact hP)) ?_⟩
  have e1 : K1.1 33 2 = E.1 0 2 := r0_I hK1.2.2.2.2.2.1 2
  refine ⟨Or.inr rfl, out_so (X := u_person E) hK1 rfl ?_ ?_ ?_ ?_⟩
  · unfold addP
    repeat first | exact hK1.2.2.2.2.2.2 | refine frG_w ?_ (by decide)
  · unfold addP
    repeat rw [wI_ne (by decide)]
  · unfold addP
    repeat rw [wI_ne (by decide)]
  · unfold addP u_person
    rw [e1]
    exact isE_w (isE_w (isE_w hK1.2.2.2.2.2.1 (r := 14) (by decide) _ _) (r := 15) (by decide) _ _) (r := 0) (by decide) 2 _
theorem C_kno (f : Nat → Int) (Z : Nat) (E : Ev) (hg : s_ok E) (M : Mm) (k : Tk) (h : rdI f Z E M M k 0) : en_Ct 5 0 54 [.inr (.inr (1, 3, 61)), .inr (.inr (1, 1, 33))] M (fun r M' => outC f Z M M' (sKno f Z E (tok f Z k.2.2)) r) := by
  obtain ⟨n0, n1, n2, -⟩ := hg.1
  refine ct_54 rfl ?_
  refine aw_54_0 ?_
  refine ⟨3, 0, by first | decide | omega, by first | decide | omega, en_Ct_mono (C_step h) ?_⟩
  rintro _ K1 ⟨rfl, hK1, nK1, lK1⟩
  have e2K1 : K1.1 33 2 = E.1 0 2 := r0_I hK1.2.2.2.2.2.1 2
  by_cases c3 : numO f (tok f Z k.2.2) 0 (E.1 0 2 - 1)
  · refine ⟨4, 0, by first | decide | omega, by first | decide | omega, en_Ct_mono (C_rnT hK1 (by decide) (lo := 0) (hi := (K1.1 33 2) - 1) (by omega) (by omega) (by rw [e2K1]; exact c3)) ?_⟩
    rintro _ K2 ⟨rfl, hK2, nK2, lK2⟩
    refine br_eq_n (by decide) (by decide) (by decide) ?_
    have e1K2 : K2.1 33 1 = E.1 0 1 := r0_I hK2.2.2.2.2.2.1 1
    by_cases c6 : numO f (tok f Z (tok f Z k.2.2).2.2) 0 (E.1 0 1 - 1)
    · refine ⟨4, 0, by first | decide | omega, by first | decide | omega, en_Ct_mono (C_rnT hK2 (by decide) (lo := 0) (hi := (K2.1 33 1) - 1) (by omega) (by omega) (by rw [e1K2]; exact c6)) ?_⟩
      rintro _ K5 ⟨rfl, hK5, nK5, lK5⟩
      refine br_ne_y (by decide) (by decide) (by decide) ?_
      refine aw_54_34 ?_
      have v0 : K5.1 63 0 = vl f (tok f Z k.2.2) := (nK5 0).trans ((if_neg (by decide)).trans ((nK2 0).trans (if_pos rfl)))
      have v1 : K5.1 63 1 = vl f (tok f Z (tok f Z k.2.2).2.2) := (nK5 1).trans (if_pos rfl)
      have ⟨_, b1, b2⟩ := c3
      have ⟨_, b3, b4⟩ := c6
      refine ⟨1, rfl, (show 1 < 5 by omega), ?_⟩
      refine ⟨(K5.1 63 1).toNat, it_nn (x := K5.1 63 1) (by omega), (show (K5.1 63 1).toNat < 24 by omega), ?_⟩
      refine ⟨0, rfl, (show 0 < 5 by omega), ?_⟩
      refine ⟨(K5.1 63 1).toNat, it_nn (x := K5.1 63 1) (by omega), (show (K5.1 63 1).toNat < 24 by omega), ?_⟩
      refine ⟨Or.inr rfl, out_so (X := u_knows E (vl f (tok f Z k.2.2)) (vl f (tok f Z (tok f Z k.2.2).2.2)) 1) hK5 (by unfold sKno; exact (rn_t c3).trans (rn_t c6)) (frG_w hK5.2.2.2.2.2.2 (by decide)) (wI_ne (by decide)) (wI_ne (by decide)) ?_⟩
      have e7 : K5.1 40 (vl f (tok f Z (tok f Z k.2.2).2.2)).toNat = E.1 7 (vl f (tok f Z (tok f Z k.2.2).2.2)).toNat := congrFun (hK5.2.2.2.2.2.1.1 7 (by decide)) _
      unfold u_knows nb
      rw [if_pos rfl, v0, v1, e7]
      exact isE_w hK5.2.2.2.2.2.1 (r := 7) (by decide) _ _
    · refine ⟨4, 0, by first | decide | omega, by first | decide | omega, en_Ct_eq (C_rnF hK2 (by decide) (lo := 0) (hi := (K2.1 33 1) - 1) (by omega) (by omega) (by rw [e1K2]; exact c6)) ?_⟩
      refine br_ne_n (by decide) (by decide) (by decide) ?_
      refine aw_54_32 ?_
      exact ⟨Or.inl rfl, out_no hK2 (by unfold sKno; exact (rn_t c3).trans (rn_f c6))⟩
  · refine ⟨4, 0, by first | decide | omega, by first | decide | omega, en_Ct_eq (C_rnF hK1 (by decide) (lo := 0) (hi := (K1.1 33 2) - 1) (by omega) (by omega) (by rw [e2K1]; exact c3)) ?_⟩
    refine br_eq_y (by decide) (by decide) (by decide) ?_
    refine aw_54_32 ?_
    exact ⟨Or.inl rfl, out_no hK1 (by unfold sKno; exact rn_f c3)⟩
theorem rdI_ask {f : Nat → Int} {Z : Nat} {E : Ev} {M K : Mm} {k : Tk} {c : Nat} (h : rdI f Z E M K k c) {w : Nat} {v : Int} : rdI f Z (u_ask E (w : Int) v) M (en_wI K 34 w v) k c := by
  obtain ⟨h1, h2, h3, h4, h5, h6, h7⟩ := h
  refine ⟨⟨by rw [wI_ne (by decide)]; exact h1.1, h1.2⟩, by rw [wI_ne (by decide)]; exact h2, h3, ⟨by rw [wI_ne (by decide)]; exact h4.1, by rw [wI_ne (by decide)]; exact h4.2.1, by rw [wI_ne (by decide)]; exact h4.2.2⟩, by rw [wI_ne (by decide)]; exact h5, ?_, frG_w h7 (by decide)⟩
  exact isE_w h6 (r := 1) (by decide) w v
theorem C_ask0 (f : Nat → Int) (Z : Nat) (E : Ev) (hg : s_ok E) (M : Mm) (k : Tk) (h : rdI f Z E M M k 0) : en_Ct 5 0 55 [.inr (.inr (1, 3, 61)), .inr (.inr (1, 1, 33)), .inl 0, .inl 1] M (fun r M' => outC f Z M M' (sAsk f Z E 0 (tok f Z k.2.2)) r) := by
  obtain ⟨n0, n1, n2, -⟩ := hg.1
  refine ct_55 rfl ?_
  refine aw_55_0 ?_
  refine ⟨3, 0, by first | decide | omega, by first | decide | omega, en_Ct_mono (C_step h) ?_⟩
  rintro _ K1 ⟨rfl, hK1, nK1, lK1⟩
  refine aw_55_7 ?_
  refine br_ge_n (by decide) (by decide) (by decide) ?_
  refine ⟨0, rfl, (show 0 < 8 by omega), ?_⟩
  refine ⟨0, rfl, (show 0 < 8 by omega), ?_⟩
  by_cases c4 : numO f (tok f Z k.2.2) 0 25
  · refine ⟨4, 0, by first | decide | omega, by first | decide | omega, en_Ct_mono (C_rnT hK1 (by decide) (lo := 0) (hi := 25) (by omega) (by omega) c4) ?_⟩
    rintro _ K3 ⟨rfl, hK3, nK3, lK3⟩
    refine br_ne_y (by decide) (by decide) (by decide) ?_
    refine aw_55_38 ?_
    refine ⟨0, rfl, (show 0 < 5 by omega), ?_⟩
    refine ⟨0, rfl, (show 0 < 8 by omega), ?_⟩
    refine aw_55_7 ?_
    refine br_ge_y (by decide) (by decide) (by decide) ?_
    refine aw_55_60 ?_
    have v0 : K3.1 63 0 = vl f (tok f Z k.2.2) := (nK3 0).trans (if_pos rfl)
    have hX := (rdI_ask (w := 0) (v := K3.1 63 0) hK3).2.2.2.2.2.1
    rw [v0] at hX
    refine ⟨Or.inr rfl, out_so (X := u_ask E 0 (vl f (tok f Z k.2.2))) hK3 (by unfold sAsk; exact rn_t c4) (frG_w hK3.2.2.2.2.2.2 (by decide)) (wI_ne (by decide)) (wI_ne (by decide)) ?_⟩
    rw [v0]
    exact hX
  · refine ⟨4, 0, by first | decide | omega, by first | decide | omega, en_Ct_eq (C_rnF hK1 (by decide) (lo := 0) (hi := 25) (by omega) (by omega) c4) ?_⟩
    refine br_ne_n (by decide) (by decide) (by decide) ?_
    exact ⟨Or.inl rfl, out_no hK1 (by unfold sAsk; exact rn_f c4)⟩
theorem C_ask1 (f : Nat → Int) (Z : Nat) (E : Ev) (hg : s_ok E) (M : Mm) (k : Tk) (h : rdI f Z E M M k 0) : en_Ct 5 0 55 [.inr (.inr (1, 3, 61)), .inr (.inr (1, 1, 33)), .inl 1, .inl 1] M (fun r M' => outC f Z M M' (sAsk f Z E 1 (tok f Z k.2.2)) r) := by
  obtain ⟨n0, n1, n2, -⟩ := hg.1
  refine ct_55 rfl ?_
  refine aw_55_0 ?_
  refine ⟨3, 0, by first | decide | omega, by first | decide | omega, en_Ct_mono (C_step h) ?_⟩
  rintro _ K1 ⟨rfl, hK1, nK1, lK1⟩
  refine aw_55_7 ?_
  refine br_ge_n (by decide) (by decide) (by decide) ?_
  refine ⟨1, rfl, (show 1 < 8 by omega), ?_⟩
  refine ⟨1, rfl, (show 1 < 8 by omega), ?_⟩
  by_cases c4 : numO f (tok f Z k.2.2) 1 5
  · refine ⟨4, 0, by first | decide | omega, by first | decide | omega, en_Ct_mono (C_rnT hK1 (by decide) (lo := 1) (hi := 5) (by omega) (by omega) c4) ?_⟩
    rintro _ K3 ⟨rfl, hK3, nK3, lK3⟩
    refine br_ne_y (by decide) (by decide) (by decide) ?_
    refine aw_55_38 ?_
    refine ⟨0, rfl, (show 0 < 5 by omega), ?_⟩
    refine ⟨1, rfl, (show 1 < 8 by omega), ?_⟩
    refine aw_55_7 ?_
    refine br_ge_y (by decide) (by decide) (by decide) ?_
    refine aw_55_60 ?_
    have v0 : K3.1 63 0 = vl f (tok f Z k.2.2) := (nK3 0).trans (if_pos rfl)
    have hX := (rdI_ask (w := 1) (v := K3.1 63 0) hK3).2.2.2.2.2.1
    rw [v0] at hX
    refine ⟨Or.inr rfl, out_so (X := u_ask E 1 (vl f (tok f Z k.2.2))) hK3 (by unfold sAsk; exact rn_t c4) (frG_w hK3.2.2.2.2.2.2 (by decide)) (wI_ne (by decide)) (wI_ne (by decide)) ?_⟩
    rw [v0]
    exact hX
  · refine ⟨4, 0, by first | decide | omega, by first | decide | omega, en_Ct_eq (C_rnF hK1 (by decide) (lo := 1) (hi := 5) (by omega) (by omega) c4) ?_⟩
    refine br_ne_n (by decide) (by decide) (by decide) ?_
    exact ⟨Or.inl rfl, out_no hK1 (by unfold sAsk; exact rn_f c4)⟩
theorem C_ask2 (f : Nat → Int) (Z : Nat) (E : Ev) (hg : s_ok E) (M : Mm) (k : Tk) (h : rdI f Z E M M k 0) : en_Ct 5 0 55 [.inr (.inr (1, 3, 61)), .inr (.inr (1, 1, 33)), .inl 2, .inl 1] M (fun r M' => outC f Z M M' (sAsk f Z E 2 (tok f Z k.2.2)) r) := by
  obtain ⟨n0, n1, n2, -⟩ := hg.1
  refine ct_55 rfl ?_
  refine aw_55_0 ?_
  refine ⟨3, 0, by first | decide | omega, by first | decide | omega, en_Ct_mono (C_step h) ?_⟩
  rintro _ K1 ⟨rfl, hK1, nK1, lK1⟩
  refine aw_55_7 ?_
  refine br_ge_n (by decide) (by decide) (by decide) ?_
  refine ⟨2, rfl, (show 2 < 8 by omega), ?_⟩
  refine ⟨2, rfl, (show 2 < 8 by omega), ?_⟩
  by_cases c4 : numO f (tok f Z k.2.2) 1 600
  · refine ⟨4, 0, by first | decide | omega, by first | decide | omega, en_Ct_mono (C_rnT hK1 (by decide) (lo := 1) (hi := 600) (by omega) (by omega) c4) ?_⟩
    rintro _ K3 ⟨rfl, hK3, nK3, lK3⟩
    refine br_ne_y (by decide) (by decide) (by decide) ?_
    refine aw_55_38 ?_
    refine ⟨0, rfl, (show 0 < 5 by omega), ?_⟩
    refine ⟨2, rfl, (show 2 < 8 by omega), ?_⟩
    refine aw_55_7 ?_
    refine br_ge_y (by decide) (by decide) (by decide) ?_
    refine aw_55_60 ?_
    have v0 : K3.1 63 0 = vl f (tok f Z k.2.2) := (nK3 0).trans (if_pos rfl)
    have hX := (rdI_ask (w := 2) (v := K3.1 63 0) hK3).2.2.2.2.2.1
    rw [v0] at hX
    refine ⟨Or.inr rfl, out_so (X := u_ask E 2 (vl f (tok f Z k.2.2))) hK3 (by unfold sAsk; exact rn_t c4) (frG_w hK3.2.2.2.2.2.2 (by decide)) (wI_ne (by decide)) (wI_ne (by decide)) ?_⟩
    rw [v0]
    exact hX
  · refine ⟨4, 0, by first | decide | omega, by first | decide | omega, en_Ct_eq (C_rnF hK1 (by decide) (lo := 1) (hi := 600) (by omega) (by omega) c4) ?_⟩
    refine br_ne_n (by decide) (by decide) (by decide) ?_
    exact ⟨Or.inl rfl, out_no hK1 (by unfold sAsk; exact rn_f c4)⟩
theorem C_pts (f : Nat → Int) (Z : Nat) (E : Ev) (hg : s_ok E) (M : Mm) (k : Tk) (h : rdI f Z E M M k 0) : en_Ct 5 0 55 [.inr (.inr (1, 3, 61)), .inr (.inr (1, 1, 33)), .inl 3, .inl 3] M (fun r M' => outC f Z M M' (sPts f Z E (tok f Z k.2.2)) r) := by
  obtain ⟨n0, n1, n2, -⟩ := hg.1
  refine ct_55 rfl ?_
  refine aw_55_0 ?_
  refine ⟨3, 0, by first | decide | omega, by first | decide | omega, en_Ct_mono (C_step h) ?_⟩
  rintro _ K1 ⟨rfl, hK1, nK1, lK1⟩
  refine aw_55_7 ?_
  refine br_ge_n (by decide) (by decide) (by decide) ?_
  refine ⟨3, rfl, (show 3 < 8 by omega), ?_⟩
  refine ⟨3, rfl, (show 3 < 8 by omega), ?_⟩
  by_cases c4 : numO f (tok f Z k.2.2) 0 50
  · refine ⟨4, 0, by first | decide | omega, by first | decide | omega, en_Ct_mono (C_rnT hK1 (by decide) (lo := 0) (hi := 50) (by omega) (by omega) c4) ?_⟩
    rintro _ K3 ⟨rfl, hK3, nK3, lK3⟩
    refine br_ne_y (by decide) (by decide) (by decide) ?_
    refine aw_55_38 ?_
    refine ⟨0, rfl, (show 0 < 5 by omega), ?_⟩
    refine ⟨3, rfl, (show 3 < 8 by omega), ?_⟩
    refine aw_55_7 ?_
    refine br_ge_n (by decide) (by decide) (by decide) ?_
    refine ⟨4, rfl, (show 4 < 8 by omega), ?_⟩
    refine ⟨4, rfl, (show 4 < 8 by omega), ?_⟩
    by_cases c8 : numO f (tok f Z (tok f Z k.2.2).2.2) 0 50
    · refine ⟨4, 0, by first | decide | omega, by first | decide | omega, en_Ct_mono (C_rnT (rdI_ask (w := 3) (v := K3.1 63 0) hK3) (by decide) (lo := 0) (hi := 50) (by omega) (by omega) c8) ?_⟩
      rintro _ K7 ⟨rfl, hK7, nK7, lK7⟩
      refine br_ne_y (by decide) (by decide) (by decide) ?_
      refine aw_55_38 ?_
      refine ⟨1, rfl, (show 1 < 5 by omega), ?_⟩
      refine ⟨4, rfl, (show 4 < 8 by omega), ?_⟩
      refine aw_55_7 ?_
      refine br_ge_n (by decide) (by decide) (by decide) ?_
      refine ⟨5, rfl, (show 5 < 8 by omega), ?_⟩
      refine ⟨5, rfl, (show 5 < 8 by omega), ?_⟩
      by_cases c12 : numO f (tok f Z (tok f Z (tok f Z k.2.2).2.2).2.2) 0 50
      · refine ⟨4, 0, by first | decide | omega, by first | decide | omega, en_Ct_mono (C_rnT (rdI_ask (w := 4) (v := K7.1 63 1) hK7) (by decide) (lo := 0) (hi := 50) (by omega) (by omega) c12) ?_⟩
        rintro _ K11 ⟨rfl, hK11, nK11, lK11⟩
        refine br_ne_y (by decide) (by decide) (by decide) ?_
        refine aw_55_38 ?_
        refine ⟨2, rfl, (show 2 < 5 by omega), ?_⟩
        refine ⟨5, rfl, (show 5 < 8 by omega), ?_⟩
        refine aw_55_7 ?_
        refine br_ge_y (by decide) (by decide) (by decide) ?_
        refine aw_55_60 ?_
        have v0 : K3.1 63 0 = vl f (tok f Z k.2.2) := (nK3 0).trans (if_pos rfl)
        have v1 : K7.1 63 1 = vl f (tok f Z (tok f Z k.2.2).2.2) := (nK7 1).trans (if_pos rfl)
        have v2 : K11.1 63 2 = vl f (tok f Z (tok f Z (tok f Z k.2.2).2.2).2.2) := (nK11 2).trans (if_pos rfl)
        have hX := (rdI_ask (w := 5) (v := K11.1 63 2) hK11).2.2.2.2.2.1
        rw [v0, v1, v2] at hX
        refine ⟨Or.inr rfl, out_so (X := u_ask (u_ask (u_ask E 3 (vl f (tok f Z k.2.2))) 4 (vl f (tok f Z (tok f Z k.2.2).2.2))) 5 (vl f (tok f Z (tok f Z (tok f Z k.2.2).2.2).2.2))) hK11 (by unfold sPts; exact (rn_t c4).trans ((rn_t c8).trans (rn_t c12))) (frG_w hK11.2.2.2.2.2.2 (by decide)) (wI_ne (by decide)) (wI_ne (by decide)) ?_⟩
        rw [v2]
        exact hX
      · refine ⟨4, 0, by first | decide | omega, by first | decide | omega, en_Ct_eq (C_rnF (rdI_ask (w := 4) (v := K7.1 63 1) hK7) (by decide) (lo := 0) (hi := 50) (by omega) (by omega) c12) ?_⟩
        refine br_ne_n (by decide) (by decide) (by decide) ?_
        exact ⟨Or.inl rfl, out_no (rdI_ask (w := 4) (v := K7.1 63 1) hK7) (by unfold sPts; exact (rn_t c4).trans ((rn_t c8).trans (rn_f c12)))⟩
    · refine ⟨4, 0, by first | decide | omega, by first | decide | omega, en_Ct_eq (C_rnF (rdI_ask (w := 3) (v := K3.1 63 0) hK3) (by decide) (lo := 0) (hi := 50) (by omega) (by omega) c8) ?_⟩
      refine br_ne_n (by decide) (by decide) (by decide) ?_
      exact ⟨Or.inl rfl, out_no (rdI_ask (w := 3) (v := K3.1 63 0) hK3) (by unfold sPts; exact (rn_t c4).trans (rn_f c8))⟩
  · refine ⟨4, 0, by first | decide | omega, by first | decide | omega, en_Ct_eq (C_rnF hK1 (by decide) (lo := 0) (hi := 50) (by omega) (by omega) c4) ?_⟩
    refine br_ne_n (by decide) (by decide) (by decide) ?_
    exact ⟨Or.inl rfl, out_no hK1 (by unfold sPts; exact rn_f c4)⟩
