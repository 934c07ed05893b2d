theorem out_f {f : Nat → Int} {Z h kk : Nat} {as : List AV} {M : Mm} {R : Rs} (hc : en_Ct h 0 kk as M (fun r M' => outC f Z M M' R r)) (hR : R.1 = none) : en_Ct h 0 kk as M (fun r M' => r = some (.inl 0) ∧ outC f Z M M' R r) := by
  refine en_Ct_mono hc ?_
  intro r M' ho
  refine ⟨?_, ho⟩
  rcases ho.2.2.2 with ⟨-, z⟩ | ⟨X, z, -⟩
  · exact z
  · rw [hR] at z; cases z
theorem out_t {f : Nat → Int} {Z h kk : Nat} {as : List AV} {M : Mm} {R : Rs} (hc : en_Ct h 0 kk as M (fun r M' => outC f Z M M' R r)) (hR : ¬ R.1 = none) : en_Ct h 0 kk as M (fun r M' => r = some (.inl 1) ∧ outC f Z M M' R r) := by
  refine en_Ct_mono hc ?_
  intro r M' ho
  refine ⟨?_, ho⟩
  rcases ho.2.2.2 with ⟨z, -⟩ | ⟨X, -, z, -⟩
  · exact absurd z hR
  · exact z
theorem out_tr {f : Nat → Int} {Z : Nat} {M M0 K : Mm} {R : Rs} {r : Option AV} (h : frG M M0) (ho : outC f Z M0 K R r) : outC f Z M K R r := ⟨frG_tr h ho.1, ho.2.1, ho.2.2.1, ho.2.2.2⟩
def rd0 (f : Nat → Int) (Z : Nat) (E : Ev) (M : Mm) (k : Tk) : Prop := tpO M 62 f Z ∧ M.1 61 0 = ((Z : Nat) : Int) ∧ tkO f Z k ∧ isR M k ∧ isE M 33 E
theorem rdI_8 {f : Nat → Int} {Z : Nat} {E : Ev} {M : Mm} {k : Tk} (h : rd0 f Z E M k) : rdI f Z E (en_wI M 61 8 0) (en_wI M 61 8 0) k 0 ∧ frG M (en_wI M 61 8 0) := by
  obtain ⟨h1, h2, h3, h4, h6⟩ := h
  refine ⟨⟨⟨by rw [wI_ne (by decide)]; exact h1.1, h1.2⟩, by rw [w61_n (by decide)]; exact h2, h3, ⟨by rw [w61_n (by decide)]; exact h4.1, by rw [w61_n (by decide)]; exact h4.2.1, by rw [w61_n (by decide)]; exact h4.2.2⟩, w61_s, isE_fr h6 (fun a z0 z1 => wI_ne (by omega)), frG_rfl⟩, fun a ha => wI_ne (by omega), ⟨w61_n (by decide), w61_n (by decide)⟩, fun _ _ => rfl⟩
theorem C_stm (f : Nat → Int) (Z : Nat) (E : Ev) (hg : s_ok E) (M : Mm) (k : Tk) (h : rd0 f Z E M k) : en_Ct 7 0 50 [.inr (.inr (1, 3, 61)), .inr (.inr (1, 1, 33))] M (fun r M' => outC f Z M M' (stm f Z E (M.2 64) k) r) := by
  obtain ⟨n0, n1, n2, -⟩ := hg.1
  obtain ⟨h0, hF0⟩ := rdI_8 h
  have r1 : (en_wI M 61 8 0).1 33 1 = E.1 0 1 := r0_I h0.2.2.2.2.2.1 1
  have r2 : (en_wI M 61 8 0).1 33 2 = E.1 0 2 := r0_I h0.2.2.2.2.2.1 2
  refine ct_50 rfl ?_
  refine aw_50_0 ?_
  by_cases z0 : nm f k 0 = true
  · refine ⟨5, 0, by first | decide | omega, by first | decide | omega, en_Ct_t (R_isNamed f Z (en_wI M 61 8 0) h0.1 k h0.2.2.1.1 h0.2.2.2.1.1 h0.2.2.2.1.2.1 h0.2.2.2.1.2.2 h0.2.2.1.2.1 0) z0 ?_⟩
    refine br_eq_n (by decide) (by decide) (by decide) ?_
    refine br_ne (a := (en_wI M 61 8 0).1 33 1) (b := 0) (by omega) (by omega) (fun q2 => ?_) (fun q2 => ?_)
    · refine aw_50_33 ?_
      refine aw_50_34 ?_
      refine ⟨Or.inl rfl, ?_⟩
      unfold stm
      first | (rw [if_pos z0]) | (rw [if_neg z0]; first | (rw [if_pos z1]) | (rw [if_neg z1]; first | (rw [if_pos z2]) | (rw [if_neg z2]; first | (rw [if_pos z3]) | (rw [if_neg z3]; first | (rw [if_pos z4]) | (rw [if_neg z4]; first | (rw [if_pos z5]) | (rw [if_neg z5]; first | (rw [if_pos z6]) | (rw [if_neg z6]; first | (rw [if_pos z7]) | (rw [if_neg z7]; first | (rw [if_pos z8]) | (rw [if_neg z8]; skip)))))))))
      (first | rw [if_pos (by omega)] | rw [if_neg (by omega)] | skip)
      exact out_tr hF0 (out_no h0 rfl)
    · by_cases y : (sCol f Z E (tok f Z k.2.2)).1 = none
      · refine ⟨5, 0, by first | decide | omega, by first | decide | omega, en_Ct_mono (out_f (C_col f Z E hg (en_wI M 61 8 0) k h0) y) ?_⟩
        rintro _ K ⟨rfl, ho⟩
        refine br_eq_y (by decide) (by decide) (by decide) ?_
        refine aw_50_33 ?_
        refine aw_50_34 ?_
        refine ⟨Or.inl rfl, ?_⟩
        unfold stm
        first | (rw [if_pos z0]) | (rw [if_neg z0]; first | (rw [if_pos z1]) | (rw [if_neg z1]; first | (rw [if_pos z2]) | (rw [if_neg z2]; first | (rw [if_pos z3]) | (rw [if_neg z3]; first | (rw [if_pos z4]) | (rw [if_neg z4]; first | (rw [if_pos z5]) | (rw [if_neg z5]; first | (rw [if_pos z6]) | (rw [if_neg z6]; first | (rw [if_pos z7]) | (rw [if_neg z7]; first | (rw [if_pos z8]) | (rw [if_neg z8]; skip)))))))))
        (first | rw [if_pos (by omega)] | rw [if_neg (by omega)] | skip)
        exact out_tr hF0 ho
      · refine ⟨5, 0, by first | decide | omega, by first | decide | omega, en_Ct_mono (out_t (C_col f Z E hg (en_wI M 61 8 0) k h0) y) ?_⟩
        rintro _ K ⟨rfl, ho⟩
        refine br_eq_n (by decide) (by decide) (by decide) ?_
        refine aw_50_34 ?_
        refine ⟨Or.inr rfl, ?_⟩
        unfold stm
        first | (rw [if_pos z0]) | (rw [if_neg z0]; first | (rw [if_pos z1]) | (rw [if_neg z1]; first | (rw [if_pos z2]) | (rw [if_neg z2]; first | (rw [if_pos z3]) | (rw [if_neg z3]; first | (rw [if_pos z4]) | (rw [if_neg z4]; first | (rw [if_pos z5]) | (rw [if_neg z5]; first | (rw [if_pos z6]) | (rw [if_neg z6]; first | (rw [if_pos z7]) | (rw [if_neg z7]; first | (rw [if_pos z8]) | (rw [if_neg z8]; skip)))))))))
        (first | rw [if_pos (by omega)] | rw [if_neg (by omega)] | skip)
        exact out_tr hF0 ho
  · refine ⟨5, 0, by first | decide | omega, by first | decide | omega, en_Ct_f (R_isNamed f Z (en_wI M 61 8 0) h0.1 k h0.2.2.1.1 h0.2.2.2.1.1 h0.2.2.2.1.2.1 h0.2.2.2.1.2.2 h0.2.2.1.2.1 0) z0 ?_⟩
    refine br_eq_y (by decide) (by decide) (by decide) ?_
    refine aw_50_35 ?_
    by_cases z1 : nm f k 1 = true
    · refine ⟨5, 0, by first | decide | omega, by first | decide | omega, en_Ct_t (R_isNamed f Z (en_wI M 61 8 0) h0.1 k h0.2.2.1.1 h0.2.2.2.1.1 h0.2.2.2.1.2.1 h0.2.2.2.1.2.2 h0.2.2.1.2.1 1) z1 ?_⟩
      refine br_eq_n (by decide) (by decide) (by decide) ?_
      by_cases c7 : (en_wI M 61 8 0).1 33 1 < 24
      · refine ⟨1, 0, by first | decide | omega, by first | decide | omega, en_Ct_t (R_hasRoomW 33 _ (tr_num h0.2.2.2.2.2.1 hg.1)) c7 ?_⟩
        refine br_eq_n (by decide) (by decide) (by decide) ?_
        by_cases y : (sWord f Z E (tok f Z k.2.2)).1 = none
        · refine ⟨5, 0, by first | decide | omega, by first | decide | omega, en_Ct_mono (out_f (C_word f Z E hg (en_wI M 61 8 0) k h0 (by omega)) y) ?_⟩
          rintro _ K ⟨rfl, ho⟩
          refine br_eq_y (by decide) (by decide) (by decide) ?_
          refine aw_50_63 ?_
          refine aw_50_64 ?_
          refine ⟨Or.inl rfl, ?_⟩
          unfold stm
          first | (rw [if_pos z0]) | (rw [if_neg z0]; first | (rw [if_pos z1]) | (rw [if_neg z1]; first | (rw [if_pos z2]) | (rw [if_neg z2]; first | (rw [if_pos z3]) | (rw [if_neg z3]; first | (rw [if_pos z4]) | (rw [if_neg z4]; first | (rw [if_pos z5]) | (rw [if_neg z5]; first | (rw [if_pos z6]) | (rw [if_neg z6]; first | (rw [if_pos z7]) | (rw [if_neg z7]; first | (rw [if_pos z8]) | (rw [if_neg z8]; skip)))))))))
          (first | rw [if_pos (by omega)] | rw [if_neg (by omega)] | skip)
          exact out_tr hF0 ho
        · refine ⟨5, 0, by first | decide | omega, by first | decide | omega, en_Ct_mono (out_t (C_word f Z E hg (en_wI M 61 8 0) k h0 (by omega)) y) ?_⟩
          rintro _ K ⟨rfl, ho⟩
          refine br_eq_n (by decide) (by decide) (by decide) ?_
          refine aw_50_64 ?_
          refine ⟨Or.inr rfl, ?_⟩
          unfold stm
          first | (rw [if_pos z0]) | (rw [if_neg z0]; first | (rw [if_pos z1]) | (rw [if_neg z1]; first | (rw [if_pos z2]) | (rw [if_neg z2]; first | (rw [if_pos z3]) | (rw [if_neg z3]; first | (rw [if_pos z4]) | (rw [if_neg z4]; first | (rw [if_pos z5]) | (rw [if_neg z5]; first | (rw [if_pos z6]) | (rw [if_neg z6]; first | (rw [if_pos z7]) | (rw [if_neg z7]; first | (rw [if_pos z8]) | (rw [if_neg z8]; skip)))))))))
          (first | rw [if_pos (by omega)] | rw [if_neg (by omega)] | skip)
          exact out_tr hF0 ho
      · refine ⟨1, 0, by first | decide | omega, by first | decide | omega, en_Ct_f (R_hasRoomW 33 _ (tr_num h0.2.2.2.2.2.1 hg.1)) c7 ?_⟩
        refine br_eq_y (by decide) (by decide) (by decide) ?_
        refine aw_50_63 ?_
        refine aw_50_64 ?_
        refine ⟨Or.inl rfl, ?_⟩
        unfold stm
        first | (rw [if_pos z0]) | (rw [if_neg z0]; first | (rw [if_pos z1]) | (rw [if_neg z1]; first | (rw [if_pos z2]) | (rw [if_neg z2]; first | (rw [if_pos z3]) | (rw [if_neg z3]; first | (rw [if_pos z4]) | (rw [if_neg z4]; first | (rw [if_pos z5]) | (rw [if_neg z5]; first | (rw [if_pos z6]) | (rw [if_neg z6]; first | (rw [if_pos z7]) | (rw [if_neg z7]; first | (rw [if_pos z8]) | (rw [if_neg z8]; skip)))))))))
        (first | rw [if_pos (by omega)] | rw [if_neg (by omega)] | skip)
        exact out_tr hF0 (out_no h0 rfl)
    · refine ⟨5, 0, by first | decide | omega, by first | decide | omega, en_Ct_f (R_isNamed f Z (en_wI M 61 8 0) h0.1 k h0.2.2.1.1 h0.2.2.2.1.1 h0.2.2.2.1.2.1 h0.2.2.2.1.2.2 h0.2.2.1.2.1 1) z1 ?_⟩
      refine br_eq_y (by decide) (by decide) (by decide) ?_
      refine aw_50_65 ?_
      by_cases z2 : nm f k 2 = true
      · refine ⟨5, 0, by first | decide | omega, by first | decide | omega, en_Ct_t (R_isNamed f Z (en_wI M 61 8 0) h0.1 k h0.2.2.1.1 h0.2.2.2.1.1 h0.2.2.2.1.2.1 h0.2.2.2.1.2.2 h0.2.2.1.2.1 2) z2 ?_⟩
        refine br_eq_n (by decide) (by decide) (by decide) ?_
        by_cases c14 : (en_wI M 61 8 0).1 33 2 < 4
        · refine ⟨1, 0, by first | decide | omega, by first | decide | omega, en_Ct_t (R_hasRoomP 33 _ (tr_num h0.2.2.2.2.2.1 hg.1)) c14 ?_⟩
          refine br_eq_n (by decide) (by decide) (by decide) ?_
          by_cases y : ((some (u_person E), tok f Z k.2.2) : Rs).1 = none
          · refine ⟨5, 0, by first | decide | omega, by first | decide | omega, en_Ct_mono (out_f (C_per f Z E hg (en_wI M 61 8 0) k h0 (by omega)) y) ?_⟩
            rintro _ K ⟨rfl, ho⟩
            refine br_eq_y (by decide) (by decide) (by decide) ?_
            refine aw_50_93 ?_
            refine aw_50_94 ?_
            refine ⟨Or.inl rfl, ?_⟩
            unfold stm
            first | (rw [if_pos z0]) | (rw [if_neg z0]; first | (rw [if_pos z1]) | (rw [if_neg z1]; first | (rw [if_pos z2]) | (rw [if_neg z2]; first | (rw [if_pos z3]) | (rw [if_neg z3]; first | (rw [if_pos z4]) | (rw [if_neg z4]; first | (rw [if_pos z5]) | (rw [if_neg z5]; first | (rw [if_pos z6]) | (rw [if_neg z6]; first | (rw [if_pos z7]) | (rw [if_neg z7]; first | (rw [if_pos z8]) | (rw [if_neg z8]; skip)))))))))
            (first | rw [if_pos (by omega)] | rw [if_neg (by omega)] | skip)
            exact out_tr hF0 ho
          · refine ⟨5, 0, by first | decide | omega, by first | decide | omega, en_Ct_mono (out_t (C_per f Z E hg (en_wI M 61 8 0) k h0 (by omega)) y) ?_⟩
            rintro _ K ⟨rfl, ho⟩
            refine br_eq_n (by decide) (by decide) (by decide) ?_
            refine aw_50_94 ?_
            refine ⟨Or.inr rfl, ?_⟩
            unfold stm
            first | (rw [if_pos z0]) | (rw [if_neg z0]; first | (rw [if_pos z1]) | (rw [if_neg z1]; first | (rw [if_pos z2]) | (rw [if_neg z2]; first | (rw [if_pos z3]) | (rw [if_neg z3]; first | (rw [if_pos z4]) | (rw [if_neg z4]; first | (rw [if_pos z5]) | (rw [if_neg z5]; first | (rw [if_pos z6]) | (rw [if_neg z6]; first | (rw [if_pos z7]) | (rw [if_neg z7]; first | (rw [if_pos z8]) | (rw [if_neg z8]; skip)))))))))
            (first | rw [if_pos (by omega)] | rw [if_neg (by omega)] | skip)
            exact out_tr hF0 ho
        · refine ⟨1, 0, by first | decide | omega, by first | decide | omega, en_Ct_f (R_hasRoomP 33 _ (tr_num h0.2.2.2.2.2.1 hg.1)) c14 ?_⟩
          refine br_eq_y (by decide) (by decide) (by decide) ?_
          refine aw_50_93 ?_
          refine aw_50_94 ?_
          refine ⟨Or.inl rfl, ?_⟩
          unfold stm
          first | (rw [if_pos z0]) | (rw [if_neg z0]; first | (rw [if_pos z1]) | (rw [if_neg z1]; first | (rw [if_pos z2]) | (rw [if_neg z2]; first | (rw [if_pos z3]) | (rw [if_neg z3]; first | (rw [if_pos z4]) | (rw [if_neg z4]; first | (rw [if_pos z5]) | (rw [if_neg z5]; first | (rw [if_pos z6]) | (rw [if_neg z6]; first | (rw [if_pos z7]) | (rw [if_neg z7]; first | (rw [if_pos z8]) | (rw [if_neg z8]; skip)))))))))
          (first | rw [if_pos (by omega)] | rw [if_neg (by omega)] | skip)
          exact out_tr hF0 (out_no h0 rfl)
      · refine ⟨5, 0, by first | decide | omega, by first | decide | omega, en_Ct_f (R_isNamed f Z (en_wI M 61 8 0) h0.1 k h0.2.2.1.1 h0.2.2.2.1.1 h0.2.2.2.1.2.1 h0.2.2.2.1.2.2 h0.2.2.1.2.1 2) z2 ?_⟩
        refine br_eq_y (by decide) (by decide) (by decide) ?_
        refine aw_50_95 ?_
        by_cases z3 : nm f k 3 = true
        · refine ⟨5, 0, by first | decide | omega, by first | decide | omega, en_Ct_t (R_isNamed f Z (en_wI M 61 8 0) h0.1 k h0.2.2.1.1 h0.2.2.2.1.1 h0.2.2.2.1.2.1 h0.2.2.2.1.2.2 h0.2.2.1.2.1 3) z3 ?_⟩
          refine br_eq_n (by decide) (by decide) (by decide) ?_
          by_cases y : (sKno f Z E (tok f Z k.2.2)).1 = none
          · refine ⟨5, 0, by first | decide | omega, by first | decide | omega, en_Ct_mono (out_f (C_kno f Z E hg (en_wI M 61 8 0) k h0) y) ?_⟩
            rintro _ K ⟨rfl, ho⟩
            refine ⟨Or.inl rfl, ?_⟩
            unfold stm
            first | (rw [if_pos z0]) | (rw [if_neg z0]; first | (rw [if_pos z1]) | (rw [if_neg z1]; first | (rw [if_pos z2]) | (rw [if_neg z2]; first | (rw [if_pos z3]) | (rw [if_neg z3]; first | (rw [if_pos z4]) | (rw [if_neg z4]; first | (rw [if_pos z5]) | (rw [if_neg z5]; first | (rw [if_pos z6]) | (rw [if_neg z6]; first | (rw [if_pos z7]) | (rw [if_neg z7]; first | (rw [if_pos z8]) | (rw [if_neg z8]; skip)))))))))
            (first | rw [if_pos (by omega)] | rw [if_neg (by omega)] | skip)
            exact out_tr hF0 ho
          · refine ⟨5, 0, by first | decide | omega, by first | decide | omega, en_Ct_mono (out_t (C_kno f Z E hg (en_wI M 61 8 0) k h0) y) ?_⟩
            rintro _ K ⟨rfl, ho⟩
            refine ⟨Or.inr rfl, ?_⟩
            unfold stm
            first | (rw [if_pos z0]) | (rw [if_neg z0]; first | (rw [if_pos z1]) | (rw [if_neg z1]; first | (rw [if_pos z2]) | (rw [if_neg z2]; first | (rw [if_pos z3]) | (rw [if_neg z3]; first | (rw [if_pos z4]) | (rw [if_neg z4]; first | (rw [if_pos z5]) | (rw [if_neg z5]; first | (rw [if_pos z6]) | (rw [if_neg z6]; first | (rw [if_pos z7]) | (rw [if_neg z7]; first | (rw [if_pos z8]) | (rw [if_neg z8]; skip)))))))))
            (first | rw [if_pos (by omega)] | rw [if_neg (by omega)] | skip)
            exact out_tr hF0 ho
        · refine ⟨5, 0, by first | decide | omega, by first | decide | omega, en_Ct_f (R_isNamed f Z (en_wI M 61 8 0) h0.1 k h0.2.2.1.1 h0.2.2.2.1.1 h0.2.2.2.1.2.1 h0.2.2.2.1.2.2 h0.2.2.1.2.1 3) z3 ?_⟩
          refine br_eq_y (by decide) (by decide) (by decide) ?_
          refine aw_50_110 ?_
          by_cases z4 : nm f k 4 = true
          · refine ⟨5, 0, by first | decide | omega, by first | decide | omega, en_Ct_t (R_isNamed f Z (en_wI M 61 8 0) h0.1 k h0.2.2.1.1 h0.2.2.2.1.1 h0.2.2.2.1.2.1 h0.2.2.2.1.2.2 h0.2.2.1.2.1 4) z4 ?_⟩
            refine br_eq_n (by decide) (by decide) (by decide) ?_
            by_cases y : (sAsk f Z E 0 (tok f Z k.2.2)).1 = none
            · refine ⟨5, 0, by first | decide | omega, by first | decide | omega, en_Ct_mono (out_f (C_ask0 f Z E hg (en_wI M 61 8 0) k h0) y) ?_⟩
              rintro _ K ⟨rfl, ho⟩
              refine ⟨Or.inl rfl, ?_⟩
              unfold stm
              first | (rw [if_pos z0]) | (rw [if_neg z0]; first | (rw [if_pos z1]) | (rw [if_neg z1]; first | (rw [if_pos z2]) | (rw [if_neg z2]; first | (rw [if_pos z3]) | (rw [if_neg z3]; first | (rw [if_pos z4]) | (rw [if_neg z4]; first | (rw [if_pos z5]) | (rw [if_neg z5]; first | (rw [if_pos z6]) | (rw [if_neg z6]; first | (rw [if_pos z7]) | (rw [if_neg z7]; first | (rw [if_pos z8]) | (rw [if_neg z8]; skip)))))))))
              (first | rw [if_pos (by omega)] | rw [if_neg (by omega)] | skip)
              exact out_tr hF0 ho
            · refine ⟨5, 0, by first | decide | omega, by first | decide | omega, en_Ct_mono (out_t (C_ask0 f Z E hg (en_wI M 61 8 0) k h0) y) ?_⟩
              rintro _ K ⟨rfl, ho⟩
              refine ⟨Or.inr rfl, ?_⟩
              unfold stm
              first | (rw [if_pos z0]) | (rw [if_neg z0]; first | (rw [if_pos z1]) | (rw [if_neg z1]; first | (rw [if_pos z2]) | (rw [if_neg z2]; first | (rw [if_pos z3]) | (rw [if_neg z3]; first | (rw [if_pos z4]) | (rw [if_neg z4]; first | (rw [if_pos z5]) | (rw [if_neg z5]; first | (rw [if_pos z6]) | (rw [if_neg z6]; first | (rw [if_pos z7]) | (rw [if_neg z7]; first | (rw [if_pos z8]) | (rw [if_neg z8]; skip)))))))))
              (first | rw [if_pos (by omega)] | rw [if_neg (by omega)] | skip)
              exact out_tr hF0 ho
          · refine ⟨5, 0, by first | decide | omega, by first | decide | omega, en_Ct_f (R_isNamed f Z (en_wI M 61 8 0) h0.1 k h0.2.2.1.1 h0.2.2.2.1.1 h0.2.2.2.1.2.1 h0.2.2.2.1.2.2 h0.2.2.1.2.1 4) z4 ?_⟩
            refine br_eq_y (by decide) (by decide) (by decide) ?_
            refine aw_50_127 ?_
            by_cases z5 : nm f k 5 = true
            · refine ⟨5, 0, by first | decide | omega, by first | decide | omega, en_Ct_t (R_isNamed f Z (en_wI M 61 8 0) h0.1 k h0.2.2.1.1 h0.2.2.2.1.1 h0.2.2.2.1.2.1 h0.2.2.2.1.2.2 h0.2.2.1.2.1 5) z5 ?_⟩
              refine br_eq_n (by decide) (by decide) (by decide) ?_
              by_cases y : (sAsk f Z E 1 (tok f Z k.2.2)).1 = none
              · refine ⟨5, 0, by first | decide | omega, by first | decide | omega, en_Ct_mono (out_f (C_ask1 f Z E hg (en_wI M 61 8 0) k h0) y) ?_⟩
                rintro _ K ⟨rfl, ho⟩
                refine ⟨Or.inl rfl, ?_⟩
                unfold stm
                first | (rw [if_pos z0]) | (rw [if_neg z0]; first | (rw [if_pos z1]) | (rw [if_neg z1]; first | (rw [if_pos z2]) | (rw [if_neg z2]; first | (rw [if_pos z3]) | (rw [if_neg z3]; first | (rw [if_pos z4]) | (rw [if_neg z4]; first | (rw [if_pos z5]) | (rw [if_neg z5]; first | (rw [if_pos z6]) | (rw [if_neg z6]; first | (rw [if_pos z7]) | (rw [if_neg z7]; first | (rw [if_pos z8]) | (rw [if_neg z8]; skip)))))))))
                (first | rw [if_pos (by omega)] | rw [if_neg (by omega)] | skip)
                exact out_tr hF0 ho
              · refine ⟨5, 0, by first | decide | omega, by first | decide | omega, en_Ct_mono (out_t (C_ask1 f Z E hg (en_wI M 61 8 0) k h0) y) ?_⟩
                rintro _ K ⟨rfl, ho⟩
                refine ⟨Or.inr rfl, ?_⟩
                unfold stm
                first | (rw [if_pos z0]) | (rw [if_neg z0]; first | (rw [if_pos z1]) | (rw [if_neg z1]; first | (rw [if_pos z2]) | (rw [if_neg z2]; first | (rw [if_pos z3]) | (rw [if_neg z3]; first | (rw [if_pos z4]) | (rw [if_neg z4]; first | (rw [if_pos z5]) | (rw [if_neg z5]; first | (rw [if_pos z6]) | (rw [if_neg z6]; first | (rw [if_pos z7]) | (rw [if_neg z7]; first | (rw [if_pos z8]) | (rw [if_neg z8]; skip)))))))))
                (first | rw [if_pos (by omega)] | rw [if_neg (by omega)] | skip)
                exact out_tr hF0 ho
            · refine ⟨5, 0, by first | decide | omega, by first | decide | omega, en_Ct_f (R_isNamed f Z (en_wI M 61 8 0) h0.1 k h0.2.2.1.1 h0.2.2.2.1.1 h0.2.2.2.1.2.1 h0.2.2.2.1.2.2 h0.2.2.1.2.1 5) z5 ?_⟩
              refine br_eq_y (by decide) (by decide) (by decide) ?_
              refine aw_50_144 ?_
              by_cases z6 : nm f k 6 = true
              · refine ⟨5, 0, by first | decide | omega, by first | decide | omega, en_Ct_t (R_isNamed f Z (en_wI M 61 8 0) h0.1 k h0.2.2.1.1 h0.2.2.2.1.1 h0.2.2.2.1.2.1 h0.2.2.2.1.2.2 h0.2.2.1.2.1 6) z6 ?_⟩
                refine br_eq_n (by decide) (by decide) (by decide) ?_
                by_cases y : (sAsk f Z E 2 (tok f Z k.2.2)).1 = none
                · refine ⟨5, 0, by first | decide | omega, by first | decide | omega, en_Ct_mono (out_f (C_ask2 f Z E hg (en_wI M 61 8 0) k h0) y) ?_⟩
                  rintro _ K ⟨rfl, ho⟩
                  refine ⟨Or.inl rfl, ?_⟩
                  unfold stm
                  first | (rw [if_pos z0]) | (rw [if_neg z0]; first | (rw [if_pos z1]) | (rw [if_neg z1]; first | (rw [if_pos z2]) | (rw [if_neg z2]; first | (rw [if_pos z3]) | (rw [if_neg z3]; first | (rw [if_pos z4]) | (rw [if_neg z4]; first | (rw [if_pos z5]) | (rw [if_neg z5]; first | (rw [if_pos z6]) | (rw [if_neg z6]; first | (rw [if_pos z7]) | (rw [if_neg z7]; first | (rw [if_pos z8]) | (rw [if_neg z8]; skip)))))))))
                  (first | rw [if_pos (by omega)] | rw [if_neg (by omega)] | skip)
                  exact out_tr hF0 ho
                · refine ⟨5, 0, by first | decide | omega, by first | decide | omega, en_Ct_mono (out_t (C_ask2 f Z E hg (en_wI M 61 8 0) k h0) y) ?_⟩
                  rintro _ K ⟨rfl, ho⟩
                  refine ⟨Or.inr rfl, ?_⟩
                  unfold stm
                  first | (rw [if_pos z0]) | (rw [if_neg z0]; first | (rw [if_pos z1]) | (rw [if_neg z1]; first | (rw [if_pos z2]) | (rw [if_neg z2]; first | (rw [if_pos z3]) | (rw [if_neg z3]; first | (rw [if_pos z4]) | (rw [if_neg z4]; first | (rw [if_pos z5]) | (rw [if_neg z5]; first | (rw [if_pos z6]) | (rw [if_neg z6]; first | (rw [if_pos z7]) | (rw [if_neg z7]; first | (rw [if_pos z8]) | (rw [if_neg z8]; skip)))))))))
                  (first | rw [if_pos (by omega)] | rw [if_neg (by omega)] | skip)
                  exact out_tr hF0 ho
              · refine ⟨5, 0, by first | decide | omega, by first | decide | omega, en_Ct_f (R_isNamed f Z (en_wI M 61 8 0) h0.1 k h0.2.2.1.1 h0.2.2.2.1.1 h0.2.2.2.1.2.1 h0.2.2.2.1.2.2 h0.2.2.1.2.1 6) z6 ?_⟩
                refine br_eq_y (by decide) (by decide) (by decide) ?_
                refine aw_50_161 ?_
                by_cases z7 : nm f k 7 = true
                · refine ⟨5, 0, by first | decide | omega, by first | decide | omega, en_Ct_t (R_isNamed f Z (en_wI M 61 8 0) h0.1 k h0.2.2.1.1 h0.2.2.2.1.1 h0.2.2.2.1.2.1 h0.2.2.2.1.2.2 h0.2.2.1.2.1 7) z7 ?_⟩
                  refine br_eq_n (by decide) (by decide) (by decide) ?_
                  by_cases y : (sPts f Z E (tok f Z k.2.2)).1 = none
                  · refine ⟨5, 0, by first | decide | omega, by first | decide | omega, en_Ct_mono (out_f (C_pts f Z E hg (en_wI M 61 8 0) k h0) y) ?_⟩
                    rintro _ K ⟨rfl, ho⟩
                    refine ⟨Or.inl rfl, ?_⟩
                    unfold stm
                    first | (rw [if_pos z0]) | (rw [if_neg z0]; first | (rw [if_pos z1]) | (rw [if_neg z1]; first | (rw [if_pos z2]) | (rw [if_neg z2]; first | (rw [if_pos z3]) | (rw [if_neg z3]; first | (rw [if_pos z4]) | (rw [if_neg z4]; first | (rw [if_pos z5]) | (rw [if_neg z5]; first | (rw [if_pos z6]) | (rw [if_neg z6]; first | (rw [if_pos z7]) | (rw [if_neg z7]; first | (rw [if_pos z8]) | (rw [if_neg z8]; skip)))))))))
                    (first | rw [if_pos (by omega)] | rw [if_neg (by omega)] | skip)
                    exact out_tr hF0 ho
                  · refine ⟨5, 0, by first | decide | omega, by first | decide | omega, en_Ct_mono (out_t (C_pts f Z E hg (en_wI M 61 8 0) k h0) y) ?_⟩
                    rintro _ K ⟨rfl, ho⟩
                    refine ⟨Or.inr rfl, ?_⟩
                    unfold stm
                    first | (rw [if_pos z0]) | (rw [if_neg z0]; first | (rw [if_pos z1]) | (rw [if_neg z1]; first | (rw [if_pos z2]) | (rw [if_neg z2]; first | (rw [if_pos z3]) | (rw [if_neg z3]; first | (rw [if_pos z4]) | (rw [if_neg z4]; first | (rw [if_pos z5]) | (rw [if_neg z5]; first | (rw [if_pos z6]) | (rw [if_neg z6]; first | (rw [if_pos z7]) | (rw [if_neg z7]; first | (rw [if_pos z8]) | (rw [if_neg z8]; skip)))))))))
                    (first | rw [if_pos (by omega)] | rw [if_neg (by omega)] | skip)
                    exact out_tr hF0 ho
                · refine ⟨5, 0, by first | decide | omega, by first | decide | omega, en_Ct_f (R_isNamed f Z (en_wI M 61 8 0) h0.1 k h0.2.2.1.1 h0.2.2.2.1.1 h0.2.2.2.1.2.1 h0.2.2.2.1.2.2 h0.2.2.1.2.1 7) z7 ?_⟩
                  refine br_eq_y (by decide) (by decide) (by decide) ?_
                  refine aw_50_178 ?_
                  by_cases z8 : nm f k 8 = true
                  · refine ⟨5, 0, by first | decide | omega, by first | decide | omega, en_Ct_t (R_isNamed f Z (en_wI M 61 8 0) h0.1 k h0.2.2.1.1 h0.2.2.2.1.1 h0.2.2.2.1.2.1 h0.2.2.2.1.2.2 h0.2.2.1.2.1 8) z8 ?_⟩
                    refine br_eq_n (by decide) (by decide) (by decide) ?_
                    by_cases y : (sShe f Z E ((en_wI M 61 8 0).2 64) (tok f Z k.2.2)).1 = none
                    · refine ⟨6, 0, by first | decide | omega, by first | decide | omega, en_Ct_mono (out_f (C_she f Z E hg (en_wI M 61 8 0) k h0) y) ?_⟩
                      rintro _ K ⟨rfl, ho⟩
                      refine br_eq_y (by decide) (by decide) (by decide) ?_
                      refine aw_50_199 ?_
                      refine aw_50_200 ?_
                      refine ⟨Or.inl rfl, ?_⟩
                      unfold stm
                      first | (rw [if_pos z0]) | (rw [if_neg z0]; first | (rw [if_pos z1]) | (rw [if_neg z1]; first | (rw [if_pos z2]) | (rw [if_neg z2]; first | (rw [if_pos z3]) | (rw [if_neg z3]; first | (rw [if_pos z4]) | (rw [if_neg z4]; first | (rw [if_pos z5]) | (rw [if_neg z5]; first | (rw [if_pos z6]) | (rw [if_neg z6]; first | (rw [if_pos z7]) | (rw [if_neg z7]; first | (rw [if_pos z8]) | (rw [if_neg z8]; skip)))))))))
                      (first | rw [if_pos (by omega)] | rw [if_neg (by omega)] | skip)
                      exact out_tr hF0 ho
                    · refine ⟨6, 0, by first | decide | omega, by first | decide | omega, en_Ct_mono (out_t (C_she f Z E hg (en_wI M 61 8 0) k h0) y) ?_⟩
                      rintro _ K ⟨rfl, ho⟩
                      refine br_eq_n (by decide) (by decide) (by decide) ?_
                      refine aw_50_200 ?_
                      refine ⟨Or.inr rfl, ?_⟩
                      unfold stm
                      first | (rw [if_pos z0]) | (rw [if_neg z0]; first | (rw [if_pos z1]) | (rw [if_neg z1]; first | (rw [if_pos z2]) | (rw [if_neg z2]; first | (rw [if_pos z3]) | (rw [if_neg z3]; first | (rw [if_pos z4]) | (rw [if_neg z4]; first | (rw [if_pos z5]) | (rw [if_neg z5]; first | (rw [if_pos z6]) | (rw [if_neg z6]; first | (rw [if_pos z7]) | (rw [if_neg z7]; first | (rw [if_pos z8]) | (rw [if_neg z8]; skip)))))))))
                      (first | rw [if_pos (by omega)] | rw [if_neg (by omega)] | skip)
                      exact out_tr hF0 ho
                  · refine ⟨5, 0, by first | decide | omega, by first | decide | omega, en_Ct_f (R_isNamed f Z (en_wI M 61 8 0) h0.1 k h0.2.2.1.1 h0.2.2.2.1.1 h0.2.2.2.1.2.1 h0.2.2.2.1.2.2 h0.2.2.1.2.1 8) z8 ?_⟩
                    refine br_eq_y (by decide) (by decide) (by decide) ?_
                    refine aw_50_199 ?_
                    refine aw_50_200 ?_
                    refine ⟨Or.inl rfl, ?_⟩
                    unfold stm
                    first | (rw [if_pos z0]) | (rw [if_neg z0]; first | (rw [if_pos z1]) | (rw [if_neg z1]; first | (rw [if_pos z2]) | (rw [if_neg z2]; first | (rw [if_pos z3]) | (rw [if_neg z3]; first | (rw [if_pos z4]) | (rw [if_neg z4]; first | (rw [if_pos z5]) | (rw [if_neg z5]; first | (rw [if_pos z6]) | (rw [if_neg z6]; first | (rw [if_pos z7]) | (rw [if_neg z7]; first | (rw [if_pos z8]) | (rw [if_neg z8]; skip)))))))))
                    (first | rw [if_pos (by omega)] | rw [if_neg (by omega)] | skip)
                    exact out_tr hF0 (out_no h0 rfl)
theorem shR_g {f : Nat → Int} {Z : Nat} {E : Ev} {p : Nat} : ∀ (m n : Nat) (g g' : Nat → Int) (k : Tk), (∀ i, i < n → g i = g' i) → shR f Z E p m n g k = shR f Z E p m n g' k
  | 0, n, g, g', k, h => by rw [shR, shR, ush_c h]
  | m + 1, n, g, g', k, h => by
    have h2 : ∀ i, i < n + 1 → upf g n (vl f k) i = upf g' n (vl f k) i := fun i hi => by
      by_cases e : i = n
      · rw [e, upf_s, upf_s]
      · rw [upf_n e, upf_n e]; exact h i (by omega)
    have h3 : s_mf E p (upf g n (vl f k)) n ↔ s_mf E p (upf g' n (vl f k)) n := by
      unfold s_mf
      rw [h2 n (by omega)]
      constructor
      · rintro ⟨z1, z2, z3⟩
        exact ⟨z1, z2, fun j hj => by rw [← h2 j (by omega)]; exact z3 j hj⟩
      · rintro ⟨z1, z2, z3⟩
        exact ⟨z1, z2, fun j hj => by rw [h2 j (by omega)]; exact z3 j hj⟩
    rw [shR, shR, ush_c h, shR_g m (n + 1) _ _ _ h2]
    by_cases z : k.2.1 = 2
    · rw [if_pos z, if_pos z]
      by_cases z2 : s_mf E p (upf g n (vl f k)) n
      · rw [if_pos z2, if_pos (h3.mp z2)]
      · rw [if_neg z2, if_neg (fun q => z2 (h3.mpr q))]
    · rw [if_neg z, if_neg z]
/-- what was told ahead does not matter -/
theorem stm_g {f : Nat → Int} {Z : Nat} {E : Ev} {g g' : Nat → Int} {k : Tk} : stm f Z E g k = stm f Z E g' k := by
  have e : sShe f Z E g (tok f Z k.2.2) = sShe f Z E g' (tok f Z k.2.2) := by
    unfold sShe
    refine congrArg (rn f Z _ 0 _) (funext fun a => funext fun k => shR_g 5 0 g g' k (fun i hi => absurd hi (Nat.not_lt_zero i)))
  unfold stm
  rw [e]
