/-! the reference reads a statement -/
def st3 (f : Nat → Int) (Z : Nat) (E : Ev) (k : Tk) : Rs :=
  if nm f k 3 = true then sKno f Z E (tok f Z k.2.2)
  else if nm f k 4 = true then sAsk f Z E 0 (tok f Z k.2.2)
  else if nm f k 5 = true then sAsk f Z E 1 (tok f Z k.2.2)
  else if nm f k 6 = true then sAsk f Z E 2 (tok f Z k.2.2)
  else if nm f k 7 = true then sPts f Z E (tok f Z k.2.2)
  else if nm f k 8 = true then sShe f Z E (fun _ => 0) (tok f Z k.2.2)
  else (none, k)
def st2 (f : Nat → Int) (Z : Nat) (E : Ev) (k : Tk) : Rs := if nm f k 2 = true then (if E.1 0 2 < 4 then (some (u_person E), tok f Z k.2.2) else (none, k)) else st3 f Z E k
def st1 (f : Nat → Int) (Z : Nat) (E : Ev) (k : Tk) : Rs := if nm f k 1 = true then (if E.1 0 1 < 24 then sWord f Z E (tok f Z k.2.2) else (none, k)) else st2 f Z E k
theorem stm0_e {f : Nat → Int} {Z : Nat} {E : Ev} {k : Tk} : stm0 f Z E k = if nm f k 0 = true then (if E.1 0 1 = 0 then sCol f Z E (tok f Z k.2.2) else (none, k)) else st1 f Z E k := rfl
theorem W_186 {post : Option AV → Mm → Prop} (f : Nat → Int) (Z : Nat) (E : Ev) (M : Mm) (k : Tk) (h : rdM f Z E M M k) (hn : ∀ q, 3 ≤ q → q < 9 → nm f k q = false) (hx : post (some (.inl 0)) (en_wI M 84 30 (M.1 84 28))) : en_AW 7 0 183 post 186 [some (.inr (.inr (1, 6, 84))), none] [] M 0 := by
  refine aw_183_186 ?_
  refine ⟨5, 0, by first | decide | omega, by first | decide | omega, en_Ct_f (R_isTold f Z M h.1 k h.2.2.1.1 h.2.2.2.1.1 h.2.2.2.1.2.1 h.2.2.2.1.2.2.1 h.2.2.1.2.1 3) (by rw [hn 3 (by decide) (by decide)]; decide) ?_⟩
  refine br_eq_y (by decide) (by decide) (by decide) ?_
  refine aw_183_250 ?_
  refine ⟨5, 0, by first | decide | omega, by first | decide | omega, en_Ct_f (R_isTold f Z M h.1 k h.2.2.1.1 h.2.2.2.1.1 h.2.2.2.1.2.1 h.2.2.2.1.2.2.1 h.2.2.1.2.1 4) (by rw [hn 4 (by decide) (by decide)]; decide) ?_⟩
  refine br_eq_y (by decide) (by decide) (by decide) ?_
  refine aw_183_265 ?_
  refine ⟨5, 0, by first | decide | omega, by first | decide | omega, en_Ct_f (R_isTold f Z M h.1 k h.2.2.1.1 h.2.2.2.1.1 h.2.2.2.1.2.1 h.2.2.2.1.2.2.1 h.2.2.1.2.1 5) (by rw [hn 5 (by decide) (by decide)]; decide) ?_⟩
  refine br_eq_y (by decide) (by decide) (by decide) ?_
  refine aw_183_280 ?_
  refine ⟨5, 0, by first | decide | omega, by first | decide | omega, en_Ct_f (R_isTold f Z M h.1 k h.2.2.1.1 h.2.2.2.1.1 h.2.2.2.1.2.1 h.2.2.2.1.2.2.1 h.2.2.1.2.1 6) (by rw [hn 6 (by decide) (by decide)]; decide) ?_⟩
  refine br_eq_y (by decide) (by decide) (by decide) ?_
  refine aw_183_295 ?_
  refine ⟨5, 0, by first | decide | omega, by first | decide | omega, en_Ct_f (R_isTold f Z M h.1 k h.2.2.1.1 h.2.2.2.1.1 h.2.2.2.1.2.1 h.2.2.2.1.2.2.1 h.2.2.1.2.1 7) (by rw [hn 7 (by decide) (by decide)]; decide) ?_⟩
  refine br_eq_y (by decide) (by decide) (by decide) ?_
  refine aw_183_334 ?_
  refine ⟨5, 0, by first | decide | omega, by first | decide | omega, en_Ct_f (R_isTold f Z M h.1 k h.2.2.1.1 h.2.2.2.1.1 h.2.2.2.1.2.1 h.2.2.2.1.2.2.1 h.2.2.1.2.1 8) (by rw [hn 8 (by decide) (by decide)]; decide) ?_⟩
  refine br_eq_y (by decide) (by decide) (by decide) ?_
  refine aw_183_350 ?_
  refine ⟨1, 0, by first | decide | omega, by first | decide | omega, en_Ct_eq (R_wrong M) ?_⟩
  refine aw_183_354 ?_
  exact ⟨Or.inl rfl, hx⟩
theorem W_159 {post : Option AV → Mm → Prop} (f : Nat → Int) (Z : Nat) (E : Ev) (M : Mm) (k : Tk) (h : rdM f Z E M M k) (hn : ∀ q, 2 ≤ q → q < 9 → nm f k q = false) (hx : post (some (.inl 0)) (en_wI M 84 30 (M.1 84 28))) : en_AW 7 0 183 post 159 [some (.inr (.inr (1, 6, 84))), none] [] M 0 := by
  refine aw_183_159 ?_
  refine ⟨5, 0, by first | decide | omega, by first | decide | omega, en_Ct_f (R_isTold f Z M h.1 k h.2.2.1.1 h.2.2.2.1.1 h.2.2.2.1.2.1 h.2.2.2.1.2.2.1 h.2.2.1.2.1 2) (by rw [hn 2 (by decide) (by decide)]; decide) ?_⟩
  refine br_eq_y (by decide) (by decide) (by decide) ?_
  exact W_186 f Z E M k h (fun q q1 q2 => hn q (by omega) q2) hx
theorem W_46 {post : Option AV → Mm → Prop} (f : Nat → Int) (Z : Nat) (E : Ev) (M : Mm) (k : Tk) (h : rdM f Z E M M k) (hn : ∀ q, 1 ≤ q → q < 9 → nm f k q = false) (hx : post (some (.inl 0)) (en_wI M 84 30 (M.1 84 28))) : en_AW 7 0 183 post 46 [some (.inr (.inr (1, 6, 84))), none] [] M 0 := by
  refine aw_183_46 ?_
  refine ⟨5, 0, by first | decide | omega, by first | decide | omega, en_Ct_f (R_isTold f Z M h.1 k h.2.2.1.1 h.2.2.2.1.1 h.2.2.2.1.2.1 h.2.2.2.1.2.2.1 h.2.2.1.2.1 1) (by rw [hn 1 (by decide) (by decide)]; decide) ?_⟩
  refine br_eq_y (by decide) (by decide) (by decide) ?_
  exact W_159 f Z E M k h (fun q q1 q2 => hn q (by omega) q2) hx
theorem D_186 {post : Option AV → Mm → Prop} (f : Nat → Int) (Z : Nat) (E : Ev) (hg : s_ok E) (M : Mm) (k : Tk) (h : rdM f Z E M M k) (hx : ∀ (r : Option AV) (K : Mm), outM f Z M K (st3 f Z E k) r → post r K) : en_AW 7 0 183 post 186 [some (.inr (.inr (1, 6, 84))), none] [] M 0 := by
  obtain ⟨n0, n1, n2, -⟩ := hg.1
  have r0 : M.1 84 9 = E.1 0 0 := h.2.2.2.2.1.1
  have r1 : M.1 84 10 = E.1 0 1 := h.2.2.2.2.1.2.1
  have r2 : M.1 84 18 = E.1 0 2 := h.2.2.2.2.1.2.2.1
  refine aw_183_186 ?_
  by_cases z3 : nm f k 3 = true
  · refine ⟨5, 0, by first | decide | omega, by first | decide | omega, en_Ct_t (R_isTold f Z M h.1 k h.2.2.1.1 h.2.2.2.1.1 h.2.2.2.1.2.1 h.2.2.2.1.2.2.1 h.2.2.1.2.1 3) z3 ?_⟩
    refine br_eq_n (by decide) (by decide) (by decide) ?_
    have e5 : M.1 84 18 = E.1 0 2 := h.2.2.2.2.1.2.2.1
    by_cases c2 : numO f (tok f Z k.2.2) 0 (E.1 0 2 - 1)
    · refine ⟨5, 0, by first | decide | omega, by first | decide | omega, en_Ct_mono (D_telT f Z E M M k h 0 ((M.1 84 18) - 1) (by omega) (by omega) (by rw [e5]; exact c2)) ?_⟩
      rintro _ K3 ⟨rfl, hK3, FK3, nK3⟩
      refine br_eq_n (by decide) (by decide) (by decide) ?_
      have e10 : K3.1 84 10 = E.1 0 1 := hK3.2.2.2.2.1.2.1
      by_cases c7 : numO f (tok f Z (tok f Z k.2.2).2.2) 0 (E.1 0 1 - 1)
      · refine ⟨4, 0, by first | decide | omega, by first | decide | omega, en_Ct_mono (D_nbT (c := 1) (lo := 0) (hi := (K3.1 84 10) - 1) hK3 (by decide) (by omega) (by omega) (by rw [e10]; exact c7)) ?_⟩
        rintro _ K8 ⟨rfl, hK8, FK8, nK8⟩
        refine br_ne_y (by decide) (by decide) (by decide) ?_
        refine aw_183_226 ?_
        have v0 : K8.1 116 0 = vl f (tok f Z k.2.2) := ((nK8 0).trans ((if_neg (by decide)).trans nK3))
        have v1 : K8.1 116 1 = vl f (tok f Z (tok f Z k.2.2).2.2) := ((nK8 1).trans (if_pos rfl))
        have ⟨_, b1, b2⟩ := c2
        have ⟨_, b3, b4⟩ := c7
        refine ⟨1, rfl, (show 1 < 5 by omega), ?_⟩
        refine ⟨(K8.1 116 1).toNat, it_nn (x := K8.1 116 1) (by omega), (show (K8.1 116 1).toNat < 24 by omega), ?_⟩
        refine ⟨0, rfl, (show 0 < 5 by omega), ?_⟩
        refine ⟨(K8.1 116 1).toNat, it_nn (x := K8.1 116 1) (by omega), (show (K8.1 116 1).toNat < 24 by omega), ?_⟩
        have e7 : K8.1 106 (vl f (tok f Z (tok f Z k.2.2).2.2)).toNat = E.1 7 (vl f (tok f Z (tok f Z k.2.2).2.2)).toNat := congrFun (hK8.2.2.2.2.2.1.2.2.2 7 (by decide) (by decide)) _
        refine ⟨Or.inr rfl, hx _ _ (outM_so (X := u_knows E (vl f (tok f Z k.2.2)) (vl f (tok f Z (tok f Z k.2.2).2.2)) 1) (k := (tok f Z (tok f Z (tok f Z k.2.2).2.2).2.2)) (B := K3) (by unfold st3; rw [if_pos z3]; unfold sKno; exact (rn_t c2).trans (rn_t c7)) (frM_w (frM_tr (frM_tr frM_rfl (frM_H FK3)) (frM_H FK8)) (by decide)) ?_)⟩
        unfold u_knows nb
        rw [if_pos rfl, v0, v1, e7]
        exact rdM_w hK8 (r := 7) (by decide) _ _
      · refine ⟨4, 0, by first | decide | omega, by first | decide | omega, en_Ct_mono (D_nbF (c := 1) (lo := 0) (hi := (K3.1 84 10) - 1) hK3 (by decide) (by omega) (by omega) (by rw [e10]; exact c7)) ?_⟩
        rintro _ K9 ⟨rfl, FK9, nK9⟩
        refine br_ne_n (by decide) (by decide) (by decide) ?_
        refine aw_183_224 ?_
        exact ⟨Or.inl rfl, hx _ _ (outM_no (k := (tok f Z (tok f Z k.2.2).2.2)) (by unfold st3; rw [if_pos z3]; unfold sKno; exact (rn_t c2).trans (rn_f c7)) (frM_tr (frM_tr frM_rfl (frM_H FK3)) (frM_H FK9)) nK9)⟩
    · refine ⟨5, 0, by first | decide | omega, by first | decide | omega, en_Ct_mono (D_telF f Z E M M k h 0 ((M.1 84 18) - 1) (by omega) (by omega) (by rw [e5]; exact c2)) ?_⟩
      rintro _ K4 ⟨rfl, FK4, nK4⟩
      refine br_eq_y (by decide) (by decide) (by decide) ?_
      refine aw_183_224 ?_
      exact ⟨Or.inl rfl, hx _ _ (outM_no (k := (tok f Z k.2.2)) (by unfold st3; rw [if_pos z3]; unfold sKno; exact rn_f c2) (frM_tr frM_rfl (frM_H FK4)) nK4)⟩
  · refine ⟨5, 0, by first | decide | omega, by first | decide | omega, en_Ct_f (R_isTold f Z M h.1 k h.2.2.1.1 h.2.2.2.1.1 h.2.2.2.1.2.1 h.2.2.2.1.2.2.1 h.2.2.1.2.1 3) z3 ?_⟩
    refine br_eq_y (by decide) (by decide) (by decide) ?_
    refine aw_183_250 ?_
    by_cases z4 : nm f k 4 = true
    · refine ⟨5, 0, by first | decide | omega, by first | decide | omega, en_Ct_t (R_isTold f Z M h.1 k h.2.2.1.1 h.2.2.2.1.1 h.2.2.2.1.2.1 h.2.2.2.1.2.2.1 h.2.2.1.2.1 4) z4 ?_⟩
      refine br_eq_n (by decide) (by decide) (by decide) ?_
      by_cases c16 : numO f (tok f Z k.2.2) 0 25
      · refine ⟨5, 0, by first | decide | omega, by first | decide | omega, en_Ct_mono (D_asT f Z E M M k h 0 (by decide) ((okA_num (by decide)).mpr c16)) ?_⟩
        rintro _ K17 ⟨rfl, hK17, FK17⟩
        exact ⟨Or.inr rfl, hx _ _ (outM_so (X := (u_ask E 0 (vl f (tok f Z k.2.2)))) (k := (tok f Z (tok f Z k.2.2).2.2)) (by unfold st3; rw [if_neg z3, if_pos z4]; unfold sAsk; exact rn_t c16) (frM_tr frM_rfl FK17) hK17)⟩
      · refine ⟨5, 0, by first | decide | omega, by first | decide | omega, en_Ct_mono (D_asF f Z E M M k h 0 (by decide) (fun z => c16 ((okA_num (by decide)).mp z))) ?_⟩
        rintro _ K18 ⟨rfl, FK18, nK18⟩
        exact ⟨Or.inl rfl, hx _ _ (outM_no (k := (tok f Z k.2.2)) (by unfold st3; rw [if_neg z3, if_pos z4]; unfold sAsk; exact rn_f c16) (frM_tr frM_rfl FK18) nK18)⟩
    · refine ⟨5, 0, by first | decide | omega, by first | decide | omega, en_Ct_f (R_isTold f Z M h.1 k h.2.2.1.1 h.2.2.2.1.1 h.2.2.2.1.2.1 h.2.2.2.1.2.2.1 h.2.2.1.2.1 4) z4 ?_⟩
      refine br_eq_y (by decide) (by decide) (by decide) ?_
      refine aw_183_265 ?_
      by_cases z5 : nm f k 5 = true
      · refine ⟨5, 0, by first | decide | omega, by first | decide | omega, en_Ct_t (R_isTold f Z M h.1 k h.2.2.1.1 h.2.2.2.1.1 h.2.2.2.1.2.1 h.2.2.2.1.2.2.1 h.2.2.1.2.1 5) z5 ?_⟩
        refine br_eq_n (by decide) (by decide) (by decide) ?_
        by_cases c21 : numO f (tok f Z k.2.2) 1 5
        · refine ⟨5, 0, by first | decide | omega, by first | decide | omega, en_Ct_mono (D_asT f Z E M M k h 1 (by decide) ((okA_num (by decide)).mpr c21)) ?_⟩
          rintro _ K22 ⟨rfl, hK22, FK22⟩
          exact ⟨Or.inr rfl, hx _ _ (outM_so (X := (u_ask E 1 (vl f (tok f Z k.2.2)))) (k := (tok f Z (tok f Z k.2.2).2.2)) (by unfold st3; rw [if_neg z3, if_neg z4, if_pos z5]; unfold sAsk; exact rn_t c21) (frM_tr frM_rfl FK22) hK22)⟩
        · refine ⟨5, 0, by first | decide | omega, by first | decide | omega, en_Ct_mono (D_asF f Z E M M k h 1 (by decide) (fun z => c21 ((okA_num (by decide)).mp z))) ?_⟩
          rintro _ K23 ⟨rfl, FK23, nK23⟩
          exact ⟨Or.inl rfl, hx _ _ (outM_no (k := (tok f Z k.2.2)) (by unfold st3; rw [if_neg z3, if_neg z4, if_pos z5]; unfold sAsk; exact rn_f c21) (frM_tr frM_rfl FK23) nK23)⟩
      · refine ⟨5, 0, by first | decide | omega, by first | decide | omega, en_Ct_f (R_isTold f Z M h.1 k h.2.2.1.1 h.2.2.2.1.1 h.2.2.2.1.2.1 h.2.2.2.1.2.2.1 h.2.2.1.2.1 5) z5 ?_⟩
        refine br_eq_y (by decide) (by decide) (by decide) ?_
        refine aw_183_280 ?_
        by_cases z6 : nm f k 6 = true
        · refine ⟨5, 0, by first | decide | omega, by first | decide | omega, en_Ct_t (R_isTold f Z M h.1 k h.2.2.1.1 h.2.2.2.1.1 h.2.2.2.1.2.1 h.2.2.2.1.2.2.1 h.2.2.1.2.1 6) z6 ?_⟩
          refine br_eq_n (by decide) (by decide) (by decide) ?_
          by_cases c26 : numO f (tok f Z k.2.2) 1 600
          · refine ⟨5, 0, by first | decide | omega, by first | decide | omega, en_Ct_mono (D_asT f Z E M M k h 2 (by decide) ((okA_num (by decide)).mpr c26)) ?_⟩
            rintro _ K27 ⟨rfl, hK27, FK27⟩
            exact ⟨Or.inr rfl, hx _ _ (outM_so (X := (u_ask E 2 (vl f (tok f Z k.2.2)))) (k := (tok f Z (tok f Z k.2.2).2.2)) (by unfold st3; rw [if_neg z3, if_neg z4, if_neg z5, if_pos z6]; unfold sAsk; exact rn_t c26) (frM_tr frM_rfl FK27) hK27)⟩
          · refine ⟨5, 0, by first | decide | omega, by first | decide | omega, en_Ct_mono (D_asF f Z E M M k h 2 (by decide) (fun z => c26 ((okA_num (by decide)).mp z))) ?_⟩
            rintro _ K28 ⟨rfl, FK28, nK28⟩
            exact ⟨Or.inl rfl, hx _ _ (outM_no (k := (tok f Z k.2.2)) (by unfold st3; rw [if_neg z3, if_neg z4, if_neg z5, if_pos z6]; unfold sAsk; exact rn_f c26) (frM_tr frM_rfl FK28) nK28)⟩
        · refine ⟨5, 0, by first | decide | omega, by first | decide | omega, en_Ct_f (R_isTold f Z M h.1 k h.2.2.1.1 h.2.2.2.1.1 h.2.2.2.1.2.1 h.2.2.2.1.2.2.1 h.2.2.1.2.1 6) z6 ?_⟩
          refine br_eq_y (by decide) (by decide) (by decide) ?_
          refine aw_183_295 ?_
          by_cases z7 : nm f k 7 = true
          · refine ⟨5, 0, by first | decide | omega, by first | decide | omega, en_Ct_t (R_isTold f Z M h.1 k h.2.2.1.1 h.2.2.2.1.1 h.2.2.2.1.2.1 h.2.2.2.1.2.2.1 h.2.2.1.2.1 7) z7 ?_⟩
            refine br_eq_n (by decide) (by decide) (by decide) ?_
            by_cases c31 : numO f (tok f Z k.2.2) 0 50
            · refine ⟨5, 0, by first | decide | omega, by first | decide | omega, en_Ct_mono (D_asT f Z E M M k h 3 (by decide) ((okA_num (by decide)).mpr c31)) ?_⟩
              rintro _ K32 ⟨rfl, hK32, FK32⟩
              refine br_eq_n (by decide) (by decide) (by decide) ?_
              by_cases c35 : numO f (tok f Z (tok f Z k.2.2).2.2) 0 50
              · refine ⟨4, 0, by first | decide | omega, by first | decide | omega, en_Ct_mono (D_ahT (c := 4) hK32 (by decide) ((okA_num (c := 4) (by decide)).mpr c35)) ?_⟩
                rintro _ K36 ⟨rfl, hK36, FK36⟩
                refine br_eq_n (by decide) (by decide) (by decide) ?_
                by_cases c39 : numO f (tok f Z (tok f Z (tok f Z k.2.2).2.2).2.2) 0 50
                · refine ⟨4, 0, by first | decide | omega, by first | decide | omega, en_Ct_mono (D_ahT (c := 5) hK36 (by decide) ((okA_num (c := 5) (by decide)).mpr c39)) ?_⟩
                  rintro _ K40 ⟨rfl, hK40, FK40⟩
                  refine br_eq_n (by decide) (by decide) (by decide) ?_
                  refine aw_183_333 ?_
                  exact ⟨Or.inr rfl, hx _ _ (outM_so (X := (u_ask (u_ask (u_ask E 3 (vl f (tok f Z k.2.2))) 4 (vl f (tok f Z (tok f Z k.2.2).2.2))) 5 (vl f (tok f Z (tok f Z (tok f Z k.2.2).2.2).2.2)))) (k := (tok f Z (tok f Z (tok f Z (tok f Z k.2.2).2.2).2.2).2.2)) (by unfold st3; rw [if_neg z3, if_neg z4, if_neg z5, if_neg z6, if_pos z7]; unfold sPts; exact (rn_t c31).trans ((rn_t c35).trans (rn_t c39))) (frM_tr (frM_w (frM_tr (frM_w (frM_tr frM_rfl FK32) (by decide)) (frM_8 FK36)) (by decide)) (frM_8 FK40)) hK40)⟩
                · refine ⟨4, 0, by first | decide | omega, by first | decide | omega, en_Ct_mono (D_ahF (c := 5) hK36 (by decide) (fun z => c39 ((okA_num (c := 5) (by decide)).mp z))) ?_⟩
                  rintro _ K41 ⟨rfl, FK41, nK41⟩
                  refine br_eq_y (by decide) (by decide) (by decide) ?_
                  refine aw_183_332 ?_
                  refine aw_183_333 ?_
                  exact ⟨Or.inl rfl, hx _ _ (outM_no (k := (tok f Z (tok f Z (tok f Z k.2.2).2.2).2.2)) (by unfold st3; rw [if_neg z3, if_neg z4, if_neg z5, if_neg z6, if_pos z7]; unfold sPts; exact (rn_t c31).trans ((rn_t c35).trans (rn_f c39))) (frM_tr (frM_tr (frM_w (frM_tr frM_rfl FK32) (by decide)) (frM_8 FK36)) (frM_H FK41)) nK41)⟩
              · refine ⟨4, 0, by first | decide | omega, by first | decide | omega, en_Ct_mono (D_ahF (c := 4) hK32 (by decide) (fun z => c35 ((okA_num (c := 4) (by decide)).mp z))) ?_⟩
                rintro _ K37 ⟨rfl, FK37, nK37⟩
                refine br_eq_y (by decide) (by decide) (by decide) ?_
                refine aw_183_332 ?_
                refine aw_183_333 ?_
                exact ⟨Or.inl rfl, hx _ _ (outM_no (k := (tok f Z (tok f Z k.2.2).2.2)) (by unfold st3; rw [if_neg z3, if_neg z4, if_neg z5, if_neg z6, if_pos z7]; unfold sPts; exact (rn_t c31).trans (rn_f c35)) (frM_tr (frM_tr frM_rfl FK32) (frM_H FK37)) nK37)⟩
            · refine ⟨5, 0, by first | decide | omega, by first | decide | omega, en_Ct_mono (D_asF f Z E M M k h 3 (by decide) (fun z => c31 ((okA_num (by decide)).mp z))) ?_⟩
              rintro _ K33 ⟨rfl, FK33, nK33⟩
              refine br_eq_y (by decide) (by decide) (by decide) ?_
              refine aw_183_332 ?_
              refine aw_183_333 ?_
              exact ⟨Or.inl rfl, hx _ _ (outM_no (k := (tok f Z k.2.2)) (by unfold st3; rw [if_neg z3, if_neg z4, if_neg z5, if_neg z6, if_pos z7]; unfold sPts; exact rn_f c31) (frM_tr frM_rfl FK33) nK33)⟩
          · refine ⟨5, 0, by first | decide | omega, by first | decide | omega, en_Ct_f (R_isTold f Z M h.1 k h.2.2.1.1 h.2.2.2.1.1 h.2.2.2.1.2.1 h.2.2.2.1.2.2.1 h.2.2.1.2.1 7) z7 ?_⟩
            refine br_eq_y (by decide) (by decide) (by decide) ?_
            refine aw_183_334 ?_
            by_cases z8 : nm f k 8 = true
            · refine ⟨5, 0, by first | decide | omega, by first | decide | omega, en_Ct_t (R_isTold f Z M h.1 k h.2.2.1.1 h.2.2.2.1.1 h.2.2.2.1.2.1 h.2.2.2.1.2.2.1 h.2.2.1.2.1 8) z8 ?_⟩
              refine br_eq_n (by decide) (by decide) (by decide) ?_
              by_cases y : (sShe f Z E (fun _ => 0) (tok f Z k.2.2)).1 = none
              · refine ⟨6, 0, by first | decide | omega, by first | decide | omega, en_Ct_mono (outM_f (D_she f Z E hg M k h) y) ?_⟩
                rintro _ K48 ⟨rfl, hoK48⟩
                refine aw_183_354 ?_
                refine ⟨Or.inl rfl, hx _ _ ?_⟩
                unfold st3
                rw [if_neg z3, if_neg z4, if_neg z5, if_neg z6, if_neg z7, if_pos z8]
                exact hoK48
              · refine ⟨6, 0, by first | decide | omega, by first | decide | omega, en_Ct_mono (outM_t (D_she f Z E hg M k h) y) ?_⟩
                rintro _ K49 ⟨rfl, hoK49⟩
                refine aw_183_354 ?_
                refine ⟨Or.inr rfl, hx _ _ ?_⟩
                unfold st3
                rw [if_neg z3, if_neg z4, if_neg z5, if_neg z6, if_neg z7, if_pos z8]
                exact hoK49
            · refine ⟨5, 0, by first | decide | omega, by first | decide | omega, en_Ct_f (R_isTold f Z M h.1 k h.2.2.1.1 h.2.2.2.1.1 h.2.2.2.1.2.1 h.2.2.2.1.2.2.1 h.2.2.1.2.1 8) z8 ?_⟩
              refine br_eq_y (by decide) (by decide) (by decide) ?_
              refine aw_183_350 ?_
              refine ⟨1, 0, by first | decide | omega, by first | decide | omega, en_Ct_eq (R_wrong M) ?_⟩
              refine aw_183_354 ?_
              exact ⟨Or.inl rfl, hx _ _ (outM_no (k := k) (by unfold st3; rw [if_neg z3, if_neg z4, if_neg z5, if_neg z6, if_neg z7, if_neg z8]) (frM_s frM_rfl (by decide)) (by rw [w84_s]; exact h.2.2.2.1.1))⟩
theorem D_159 {post : Option AV → Mm → Prop} (f : Nat → Int) (Z : Nat) (E : Ev) (hg : s_ok E) (M : Mm) (k : Tk) (h : rdM f Z E M M k) (hx : ∀ (r : Option AV) (K : Mm), outM f Z M K (st2 f Z E k) r → post r K) : en_AW 7 0 183 post 159 [some (.inr (.inr (1, 6, 84))), none] [] M 0 := by
  obtain ⟨n0, n1, n2, -⟩ := hg.1
  have r0 : M.1 84 9 = E.1 0 0 := h.2.2.2.2.1.1
  have r1 : M.1 84 10 = E.1 0 1 := h.2.2.2.2.1.2.1
  have r2 : M.1 84 18 = E.1 0 2 := h.2.2.2.2.1.2.2.1
  refine aw_183_159 ?_
  by_cases z2 : nm f k 2 = true
  · refine ⟨5, 0, by first | decide | omega, by first | decide | omega, en_Ct_t (R_isTold f Z M h.1 k h.2.2.1.1 h.2.2.2.1.1 h.2.2.2.1.2.1 h.2.2.2.1.2.2.1 h.2.2.1.2.1 2) z2 ?_⟩
    refine br_eq_n (by decide) (by decide) (by decide) ?_
    refine br_ge (a := M.1 84 18) (b := 4) (by omega) (by omega) (fun q2 => ?_) (fun q2 => ?_)
    · exact W_186 f Z E M k h (fun j j1 j2 => nm_two (by decide) j2 (by omega) z2) (hx _ _ (outM_no (k := k) (by unfold st2; rw [if_pos z2, if_neg (by omega)]) (frM_s frM_rfl (by decide)) (by rw [w84_s]; exact h.2.2.2.1.1)))
    · refine ⟨1, 0, by first | decide | omega, by first | decide | omega, en_Ct_eq (R_addPersonM M (by omega) (by omega)) ?_⟩
      have hP : rdM f Z (u_person E) M (addPM M) k := by
        unfold addPM u_person
        rw [r2]
        exact rdM_w0 (rdM_w (rdM_w h (r := 14) (by decide) _ _) (r := 15) (by decide) _ _) (by decide) _
      refine ⟨3, 0, by first | decide | omega, by first | decide | omega, en_Ct_mono (D_look hP) ?_⟩
      rintro _ K2 ⟨rfl, hK2, hF2⟩
      exact ⟨Or.inr rfl, hx _ _ (outM_so (X := u_person E) (k := tok f Z k.2.2) (by unfold st2; rw [if_pos z2, if_pos (by omega)]) (frM_tr (frM_s (frM_w (frM_w frM_rfl (by decide)) (by decide)) (by decide)) (frM_8 hF2)) hK2)⟩
  · refine ⟨5, 0, by first | decide | omega, by first | decide | omega, en_Ct_f (R_isTold f Z M h.1 k h.2.2.1.1 h.2.2.2.1.1 h.2.2.2.1.2.1 h.2.2.2.1.2.2.1 h.2.2.1.2.1 2) z2 ?_⟩
    refine br_eq_y (by decide) (by decide) (by decide) ?_
    exact D_186 f Z E hg M k h (fun r K ho => hx r K (by unfold st2; rw [if_neg z2]; exact ho))
theorem D_46 {post : Option AV → Mm → Prop} (f : Nat → Int) (Z : Nat) (E : Ev) (hg : s_ok E) (M : Mm) (k : Tk) (h : rdM f Z E M M k) (hx : ∀ (r : Option AV) (K : Mm), outM f Z M K (st1 f Z E k) r → post r K) : en_AW 7 0 183 post 46 [some (.inr (.inr (1, 6, 84))), none] [] M 0 := by
  obtain ⟨n0, n1, n2, -⟩ := hg.1
  have r0 : M.1 84 9 = E.1 0 0 := h.2.2.2.2.1.1
  have r1 : M.1 84 10 = E.1 0 1 := h.2.2.2.2.1.2.1
  have r2 : M.1 84 18 = E.1 0 2 := h.2.2.2.2.1.2.2.1
  refine aw_183_46 ?_
  by_cases z1 : nm f k 1 = true
  · refine ⟨5, 0, by first | decide | omega, by first | decide | omega, en_Ct_t (R_isTold f Z M h.1 k h.2.2.1.1 h.2.2.2.1.1 h.2.2.2.1.2.1 h.2.2.2.1.2.2.1 h.2.2.1.2.1 1) z1 ?_⟩
    refine br_eq_n (by decide) (by decide) (by decide) ?_
    refine br_ge (a := M.1 84 10) (b := 24) (by omega) (by omega) (fun q2 => ?_) (fun q2 => ?_)
    · exact W_159 f Z E M k h (fun j j1 j2 => nm_two (by decide) j2 (by omega) z1) (hx _ _ (outM_no (k := k) (by unfold st1; rw [if_pos z1, if_neg (by omega)]) (frM_s frM_rfl (by decide)) (by rw [w84_s]; exact h.2.2.2.1.1)))
    · have hW : E.1 0 1 < 24 := by omega
      by_cases c3 : numO f (tok f Z k.2.2) 0 5
      · refine ⟨5, 0, by first | decide | omega, by first | decide | omega, en_Ct_mono (D_telT f Z E M M k h 0 5 (by omega) (by omega) c3) ?_⟩
        rintro _ K4 ⟨rfl, hK4, FK4, nK4⟩
        refine br_eq_n (by decide) (by decide) (by decide) ?_
        by_cases c7 : numO f (tok f Z (tok f Z k.2.2).2.2) 0 25
        · refine ⟨4, 0, by first | decide | omega, by first | decide | omega, en_Ct_mono (D_nbT (c := 1) (lo := 0) (hi := 25) hK4 (by decide) (by omega) (by omega) c7) ?_⟩
          rintro _ K8 ⟨rfl, hK8, FK8, nK8⟩
          refine br_eq_n (by decide) (by decide) (by decide) ?_
          have e14 : K8.1 84 9 = E.1 0 0 := hK8.2.2.2.2.1.1
          by_cases c11 : numO f (tok f Z (tok f Z (tok f Z k.2.2).2.2).2.2) 0 (E.1 0 0 - 1)
          · refine ⟨4, 0, by first | decide | omega, by first | decide | omega, en_Ct_mono (D_nbT (c := 2) (lo := 0) (hi := (K8.1 84 9) - 1) hK8 (by decide) (by omega) (by omega) (by rw [e14]; exact c11)) ?_⟩
            rintro _ K12 ⟨rfl, hK12, FK12, nK12⟩
            refine br_eq_n (by decide) (by decide) (by decide) ?_
            by_cases c16 : numO f (tok f Z (tok f Z (tok f Z (tok f Z k.2.2).2.2).2.2).2.2) 1 60
            · refine ⟨4, 0, by first | decide | omega, by first | decide | omega, en_Ct_mono (D_nbT (c := 3) (lo := 1) (hi := 60) hK12 (by decide) (by omega) (by omega) c16) ?_⟩
              rintro _ K17 ⟨rfl, hK17, FK17, nK17⟩
              refine br_eq_n (by decide) (by decide) (by decide) ?_
              by_cases c20 : numO f (tok f Z (tok f Z (tok f Z (tok f Z (tok f Z k.2.2).2.2).2.2).2.2).2.2) 0 9
              · refine ⟨4, 0, by first | decide | omega, by first | decide | omega, en_Ct_mono (D_nbT (c := 4) (lo := 0) (hi := 9) hK17 (by decide) (by omega) (by omega) c20) ?_⟩
                rintro _ K21 ⟨rfl, hK21, FK21, nK21⟩
                refine br_ne_y (by decide) (by decide) (by decide) ?_
                refine aw_183_123 ?_
                refine ⟨0, rfl, (show 0 < 5 by omega), ?_⟩
                refine ⟨1, rfl, (show 1 < 5 by omega), ?_⟩
                refine ⟨2, rfl, (show 2 < 5 by omega), ?_⟩
                refine ⟨3, rfl, (show 3 < 5 by omega), ?_⟩
                refine ⟨4, rfl, (show 4 < 5 by omega), ?_⟩
                have v0 : K21.1 116 0 = vl f (tok f Z k.2.2) := ((nK21 0).trans ((if_neg (by decide)).trans ((nK17 0).trans ((if_neg (by decide)).trans ((nK12 0).trans ((if_neg (by decide)).trans ((nK8 0).trans ((if_neg (by decide)).trans nK4))))))))
                have v1 : K21.1 116 1 = vl f (tok f Z (tok f Z k.2.2).2.2) := ((nK21 1).trans ((if_neg (by decide)).trans ((nK17 1).trans ((if_neg (by decide)).trans ((nK12 1).trans ((if_neg (by decide)).trans ((nK8 1).trans (if_pos rfl))))))))
                have v2 : K21.1 116 2 = vl f (tok f Z (tok f Z (tok f Z k.2.2).2.2).2.2) := ((nK21 2).trans ((if_neg (by decide)).trans ((nK17 2).trans ((if_neg (by decide)).trans ((nK12 2).trans (if_pos rfl))))))
                have v3 : K21.1 116 3 = vl f (tok f Z (tok f Z (tok f Z (tok f Z k.2.2).2.2).2.2).2.2) := ((nK21 3).trans ((if_neg (by decide)).trans ((nK17 3).trans (if_pos rfl))))
                have v4 : K21.1 116 4 = vl f (tok f Z (tok f Z (tok f Z (tok f Z (tok f Z k.2.2).2.2).2.2).2.2).2.2) := ((nK21 4).trans (if_pos rfl))
                have w1 : K21.1 84 10 = E.1 0 1 := hK21.2.2.2.2.1.2.1
                refine ⟨1, 0, by first | decide | omega, by first | decide | omega, en_Ct_eq (R_addWordM (K21.1 116 0) (K21.1 116 1) (K21.1 116 2) (K21.1 116 3) (K21.1 116 4) K21 (by omega) (by omega)) ?_⟩
                refine ⟨Or.inr rfl, hx _ _ (outM_so (X := u_word E (vl f (tok f Z k.2.2)) (vl f (tok f Z (tok f Z k.2.2).2.2)) (vl f (tok f Z (tok f Z (tok f Z k.2.2).2.2).2.2)) (vl f (tok f Z (tok f Z (tok f Z (tok f Z k.2.2).2.2).2.2).2.2)) (vl f (tok f Z (tok f Z (tok f Z (tok f Z (tok f Z k.2.2).2.2).2.2).2.2).2.2))) (k := (tok f Z (tok f Z (tok f Z (tok f Z (tok f Z (tok f Z k.2.2).2.2).2.2).2.2).2.2).2.2)) (B := K17) (by unfold st1; rw [if_pos z1, if_pos hW]; unfold sWord; exact (rn_t c3).trans ((rn_t c7).trans ((rn_t c11).trans ((rn_t c16).trans (rn_t c20))))) ?_ ?_)⟩
                · unfold addWM
                  exact frM_s (frM_w (frM_w (frM_w (frM_w (frM_w (frM_w (frM_w (frM_tr (frM_tr (frM_tr (frM_tr (frM_tr frM_rfl (frM_H FK4)) (frM_H FK8)) (frM_H FK12)) (frM_H FK17)) (frM_H FK21)) (by decide)) (by decide)) (by decide)) (by decide)) (by decide)) (by decide)) (by decide)) (by decide)
                · unfold addWM u_word
                  rw [w1, v0, v1, v2, v3, v4]
                  exact rdM_w0 (rdM_w (rdM_w (rdM_w (rdM_w (rdM_w (rdM_w (rdM_w hK21 (r := 2) (by decide) _ _) (r := 3) (by decide) _ _) (r := 4) (by decide) _ _) (r := 5) (by decide) _ _) (r := 6) (by decide) _ _) (r := 7) (by decide) _ _) (r := 8) (by decide) _ _) (by decide) _
              · refine ⟨4, 0, by first | decide | omega, by first | decide | omega, en_Ct_mono (D_nbF (c := 4) (lo := 0) (hi := 9) hK17 (by decide) (by omega) (by omega) c20) ?_⟩
                rintro _ K22 ⟨rfl, FK22, nK22⟩
                refine br_ne_n (by decide) (by decide) (by decide) ?_
                refine aw_183_121 ?_
                exact ⟨Or.inl rfl, hx _ _ (outM_no (k := (tok f Z (tok f Z (tok f Z (tok f Z (tok f Z k.2.2).2.2).2.2).2.2).2.2)) (by unfold st1; rw [if_pos z1, if_pos hW]; unfold sWord; exact (rn_t c3).trans ((rn_t c7).trans ((rn_t c11).trans ((rn_t c16).trans (rn_f c20))))) (frM_tr (frM_tr (frM_tr (frM_tr (frM_tr frM_rfl (frM_H FK4)) (frM_H FK8)) (frM_H FK12)) (frM_H FK17)) (frM_H FK22)) nK22)⟩
            · refine ⟨4, 0, by first | decide | omega, by first | decide | omega, en_Ct_mono (D_nbF (c := 3) (lo := 1) (hi := 60) hK12 (by decide) (by omega) (by omega) c16) ?_⟩
              rintro _ K18 ⟨rfl, FK18, nK18⟩
              refine br_eq_y (by decide) (by decide) (by decide) ?_
              refine aw_183_121 ?_
              exact ⟨Or.inl rfl, hx _ _ (outM_no (k := (tok f Z (tok f Z (tok f Z (tok f Z k.2.2).2.2).2.2).2.2)) (by unfold st1; rw [if_pos z1, if_pos hW]; unfold sWord; exact (rn_t c3).trans ((rn_t c7).trans ((rn_t c11).trans (rn_f c16)))) (frM_tr (frM_tr (frM_tr (frM_tr frM_rfl (frM_H FK4)) (frM_H FK8)) (frM_H FK12)) (frM_H FK18)) nK18)⟩
          · refine ⟨4, 0, by first | decide | omega, by first | decide | omega, en_Ct_mono (D_nbF (c := 2) (lo := 0) (hi := (K8.1 84 9) - 1) hK8 (by decide) (by omega) (by omega) (by rw [e14]; exact c11)) ?_⟩
            rintro _ K13 ⟨rfl, FK13, nK13⟩
            refine br_eq_y (by decide) (by decide) (by decide) ?_
            refine aw_183_121 ?_
            exact ⟨Or.inl rfl, hx _ _ (outM_no (k := (tok f Z (tok f Z (tok f Z k.2.2).2.2).2.2)) (by unfold st1; rw [if_pos z1, if_pos hW]; unfold sWord; exact (rn_t c3).trans ((rn_t c7).trans (rn_f c11))) (frM_tr (frM_tr (frM_tr frM_rfl (frM_H FK4)) (frM_H FK8)) (frM_H FK13)) nK13)⟩
        · refine ⟨4, 0, by first | decide | omega, by first | decide | omega, en_Ct_mono (D_nbF (c := 1) (lo := 0) (hi := 25) hK4 (by decide) (by omega) (by omega) c7) ?_⟩
          rintro _ K9 ⟨rfl, FK9, nK9⟩
          refine br_eq_y (by decide) (by decide) (by decide) ?_
          refine aw_183_121 ?_
          exact ⟨Or.inl rfl, hx _ _ (outM_no (k := (tok f Z (tok f Z k.2.2).2.2)) (by unfold st1; rw [if_pos z1, if_pos hW]; unfold sWord; exact (rn_t c3).trans (rn_f c7)) (frM_tr (frM_tr frM_rfl (frM_H FK4)) (frM_H FK9)) nK9)⟩
      · refine ⟨5, 0, by first | decide | omega, by first | decide | omega, en_Ct_mono (D_telF f Z E M M k h 0 5 (by omega) (by omega) c3) ?_⟩
        rintro _ K5 ⟨rfl, FK5, nK5⟩
        refine br_eq_y (by decide) (by decide) (by decide) ?_
        refine aw_183_121 ?_
        exact ⟨Or.inl rfl, hx _ _ (outM_no (k := (tok f Z k.2.2)) (by unfold st1; rw [if_pos z1, if_pos hW]; unfold sWord; exact rn_f c3) (frM_tr frM_rfl (frM_H FK5)) nK5)⟩
  · refine ⟨5, 0, by first | decide | omega, by first | decide | omega, en_Ct_f (R_isTold f Z M h.1 k h.2.2.1.1 h.2.2.2.1.1 h.2.2.2.1.2.1 h.2.2.2.1.2.2.1 h.2.2.1.2.1 1) z1 ?_⟩
    refine br_eq_y (by decide) (by decide) (by decide) ?_
    exact D_159 f Z E hg M k h (fun r K ho => hx r K (by unfold st1; rw [if_neg z1]; exact ho))
theorem wI_id84 {K : Mm} {s : Nat} : en_wI K 84 s (K.1 84 s) = K := by
  unfold en_wI
  refine Prod.ext (funext fun a => ?_) rfl
  by_cases z : a = 84
  · subst z
    simp only [if_true]
    funext i
    by_cases z2 : i = s
    · rw [if_pos z2, z2]
    · rw [if_neg z2]
  · simp only [if_neg z]
theorem D_stm (f : Nat → Int) (Z : Nat) (E : Ev) (hg : s_ok E) (M : Mm) (k : Tk) (h : rdM f Z E M M k) : en_Ct 7 0 183 [.inr (.inr (1, 6, 84))] M (fun r M' => outM f Z M M' (stm0 f Z E k) r) := by
  obtain ⟨n0, n1, n2, -⟩ := hg.1
  have r0 : M.1 84 9 = E.1 0 0 := h.2.2.2.2.1.1
  have r1 : M.1 84 10 = E.1 0 1 := h.2.2.2.2.1.2.1
  have r2 : M.1 84 18 = E.1 0 2 := h.2.2.2.2.1.2.2.1
  refine ct_183 rfl ?_
  refine aw_183_0 ?_
  by_cases z0 : nm f k 0 = true
  · refine ⟨5, 0, by first | decide | omega, by first | decide | omega, en_Ct_t (R_isTold f Z M h.1 k h.2.2.1.1 h.2.2.2.1.1 h.2.2.2.1.2.1 h.2.2.2.1.2.2.1 h.2.2.1.2.1 0) z0 ?_⟩
    refine br_eq_n (by decide) (by decide) (by decide) ?_
    refine br_ne (a := M.1 84 10) (b := 0) (by omega) (by omega) (fun q2 => ?_) (fun q2 => ?_)
    · exact W_46 f Z E M k h (fun j j1 j2 => nm_two (by decide) j2 (by omega) z0) (outM_no (k := k) (by rw [stm0_e, if_pos z0, if_neg (by omega)]) (frM_s frM_rfl (by decide)) (by rw [w84_s]; exact h.2.2.2.1.1))
    · have hW : E.1 0 1 = 0 := by omega
      by_cases c3 : numO f (tok f Z k.2.2) 1 5
      · refine ⟨5, 0, by first | decide | omega, by first | decide | omega, en_Ct_mono (D_telT f Z E M M k h 1 5 (by omega) (by omega) c3) ?_⟩
        rintro _ K4 ⟨rfl, hK4, FK4, nK4⟩
        refine br_eq_n (by decide) (by decide) (by decide) ?_
        refine ⟨0, rfl, (show 0 < 5 by omega), ?_⟩
        refine aw_183_41 ?_
        refine ⟨Or.inr rfl, outM_so (X := u_columns E (vl f (tok f Z k.2.2))) (k := (tok f Z (tok f Z k.2.2).2.2)) (B := M) (by rw [stm0_e, if_pos z0, if_pos hW]; unfold sCol; exact rn_t c3) (frM_s (frM_tr frM_rfl (frM_H FK4)) (by decide)) ?_⟩
        rw [nK4]
        exact rdM_w0 hK4 (by decide) _
      · refine ⟨5, 0, by first | decide | omega, by first | decide | omega, en_Ct_mono (D_telF f Z E M M k h 1 5 (by omega) (by omega) c3) ?_⟩
        rintro _ K5 ⟨rfl, FK5, nK5⟩
        refine br_eq_y (by decide) (by decide) (by decide) ?_
        refine aw_183_37 ?_
        refine aw_183_41 ?_
        have e9 : en_wI K5 84 9 (K5.1 84 9) = K5 := wI_id84
        exact ⟨Or.inl rfl, (congrArg (fun z => outM f Z M z (stm0 f Z E k) (some (.inl 0))) e9).mpr (outM_no (k := (tok f Z k.2.2)) (by rw [stm0_e, if_pos z0, if_pos hW]; unfold sCol; exact rn_f c3) (frM_tr frM_rfl (frM_H FK5)) nK5)⟩
  · refine ⟨5, 0, by first | decide | omega, by first | decide | omega, en_Ct_f (R_isTold f Z M h.1 k h.2.2.1.1 h.2.2.2.1.1 h.2.2.2.1.2.1 h.2.2.2.1.2.2.1 h.2.2.1.2.1 0) z0 ?_⟩
    refine br_eq_y (by decide) (by decide) (by decide) ?_
    exact D_46 f Z E hg M k h (fun r K ho => by rw [stm0_e, if_neg z0]; exact ho)
