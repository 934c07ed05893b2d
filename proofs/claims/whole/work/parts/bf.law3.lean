/-! the law: each call answers alike -/
section LC
variable {p : Program} {l : Launch} {e : Env} {s : State} {m : MethodId} {below : List Frame} {meth : Method} {c : Code} {b L : Nat} {xs : Nat → Int32} {cd : Nat → Nat → Nat} {D : va_G} {cs : Nat → ClassId} {ad0 : Nat → Nat}
theorem lw_c0 (C : lw_C p s m meth c b L xs cd D cs) {n : Nat} (hn : n + 6 ≤ L) {M : Mm} {bu : Nat} (hc : cpl M) (hb : bl M ≤ bu) (ih : ∀ (M2 : Mm) (bu2 : Nat), cpl M2 → bl M2 ≤ bu2 → lw_W p l e s m below meth c b L cd D cs ad0 1742 (lw_ls L n) [] M2 bu2) : lw_W p l e s m below meth c b L cd D cs ad0 252 (lw_ls L n) [] M bu := by
  obtain ⟨hx, g1, hX⟩ := S_row (lw_rg xs (n + 1)) (lw_rg xs (n + 2)) (lw_rg xs (n + 3)) M hc
  refine lw_st C lw_i252_ok ⟨n + 1, by omega, by omega, n + 2, by omega, by omega, n + 3, by omega, by omega, hx, 0, g1, Nat.zero_le _, en_Ct_mono hX ?_⟩
  rintro _ M1 ⟨a, rfl, hm, bm, g2, g3, hM⟩
  refine ⟨n + 1, by omega, by omega, n + 2, by omega, by omega, n + 3, by omega, by omega, hm, bm, g2, (show bm ≤ bu - 0 by omega), en_Ct_mono hM ?_⟩
  rintro _ M2 ⟨rfl, hc2, hb2⟩
  exact ⟨fun _ => ih M2 _ hc2 (by omega), fun z => absurd rfl z⟩
theorem lw_c1 (C : lw_C p s m meth c b L xs cd D cs) {n : Nat} (hn : n + 6 ≤ L) {M : Mm} {bu : Nat} (hc : cpl M) (hb : bl M ≤ bu) (ih : ∀ (M2 : Mm) (bu2 : Nat), cpl M2 → bl M2 ≤ bu2 → lw_W p l e s m below meth c b L cd D cs ad0 1742 (lw_ls L n) [] M2 bu2) : lw_W p l e s m below meth c b L cd D cs ad0 295 (lw_ls L n) [] M bu := by
  obtain ⟨hx, g1, hX⟩ := S_set (s := lw_f xs (n + 1)) (i := lw_f xs (n + 2)) (v := (en_lor (en_lshl (en_wr (lw_f xs (n + 3))) 32) (en_land (en_wr (lw_f xs (n + 4))) 4294967295))) (lw_rg xs (n + 1)) (lw_rg xs (n + 2)) (lw_rl _ _) M hc
  refine lw_st C lw_i295_ok ⟨n + 1, by omega, by omega, n + 2, by omega, by omega, n + 3, by omega, by omega, n + 4, by omega, by omega, hx, 0, g1, Nat.zero_le _, en_Ct_mono hX ?_⟩
  rintro _ M1 ⟨a, rfl, hm, bm, g2, g3, hM⟩
  refine ⟨n + 1, by omega, by omega, n + 2, by omega, by omega, n + 3, by omega, by omega, n + 4, by omega, by omega, hm, bm, g2, (show bm ≤ bu - 0 by omega), en_Ct_mono hM ?_⟩
  rintro _ M2 ⟨rfl, hc2, hb2⟩
  exact ⟨fun _ => ih M2 _ hc2 (by omega), fun z => absurd rfl z⟩
theorem lw_c2 (C : lw_C p s m meth c b L xs cd D cs) {n : Nat} (hn : n + 6 ≤ L) {M : Mm} {bu : Nat} (hc : cpl M) (hb : bl M ≤ bu) (ih : ∀ (M2 : Mm) (bu2 : Nat), cpl M2 → bl M2 ≤ bu2 → lw_W p l e s m below meth c b L cd D cs ad0 1742 (lw_ls L n) [] M2 bu2) : lw_W p l e s m below meth c b L cd D cs ad0 368 (lw_ls L n) [] M bu := by
  obtain ⟨hx, g1, hX⟩ := S_copy (lw_rg xs (n + 1)) (lw_rg xs (n + 2)) (lw_rg xs (n + 3)) (lw_rg xs (n + 4)) (lw_rg xs (n + 5)) M hc
  refine lw_st C lw_i368_ok ⟨n + 1, by omega, by omega, n + 2, by omega, by omega, n + 3, by omega, by omega, n + 4, by omega, by omega, n + 5, by omega, by omega, hx, 0, g1, Nat.zero_le _, en_Ct_mono hX ?_⟩
  rintro _ M1 ⟨a, rfl, hm, bm, g2, g3, hM⟩
  refine ⟨n + 1, by omega, by omega, n + 2, by omega, by omega, n + 3, by omega, by omega, n + 4, by omega, by omega, n + 5, by omega, by omega, hm, bm, g2, (show bm ≤ bu - 0 by omega), en_Ct_mono hM ?_⟩
  rintro _ M2 ⟨rfl, hc2, hb2⟩
  exact ⟨fun _ => ih M2 _ hc2 (by omega), fun z => absurd rfl z⟩
theorem lw_c3 (C : lw_C p s m meth c b L xs cd D cs) {n : Nat} (hn : n + 6 ≤ L) {M : Mm} {bu : Nat} (hc : cpl M) (hb : bl M ≤ bu) (ih : ∀ (M2 : Mm) (bu2 : Nat), cpl M2 → bl M2 ≤ bu2 → lw_W p l e s m below meth c b L cd D cs ad0 1742 (lw_ls L n) [] M2 bu2) : lw_W p l e s m below meth c b L cd D cs ad0 431 (lw_ls L n) [] M bu := by
  obtain ⟨hx, g1, hX⟩ := S_element (lw_rg xs (n + 1)) (lw_rg xs (n + 2)) M hc
  refine lw_st C lw_i431_ok ⟨n + 1, by omega, by omega, n + 2, by omega, by omega, hx, 0, g1, Nat.zero_le _, en_Ct_mono hX ?_⟩
  rintro _ M1 ⟨a, rfl, hm, bm, g2, g3, hM⟩
  refine ⟨n + 1, by omega, by omega, n + 2, by omega, by omega, hm, bm, g2, (show bm ≤ bu - 0 by omega), en_Ct_mono hM ?_⟩
  rintro _ M2 ⟨rfl, hc2, hb2⟩
  exact ⟨fun _ => ih M2 _ hc2 (by omega), fun z => absurd (by show en_wr (en_lcmp a a) = en_wr 0; unfold en_lcmp; simp) z⟩
theorem lw_c4 (C : lw_C p s m meth c b L xs cd D cs) {n : Nat} (hn : n + 6 ≤ L) {M : Mm} {bu : Nat} (hc : cpl M) (hb : bl M ≤ bu) (ih : ∀ (M2 : Mm) (bu2 : Nat), cpl M2 → bl M2 ≤ bu2 → lw_W p l e s m below meth c b L cd D cs ad0 1742 (lw_ls L n) [] M2 bu2) : lw_W p l e s m below meth c b L cd D cs ad0 465 (lw_ls L n) [] M bu := by
  obtain ⟨hx, g1, hX⟩ := S_holds (lw_rg xs (n + 1)) M hc
  refine lw_st C lw_i465_ok ⟨n + 1, by omega, by omega, hx, 0, g1, Nat.zero_le _, en_Ct_mono hX ?_⟩
  rintro _ M1 ⟨a, rfl, hm, bm, g2, g3, hM⟩
  refine ⟨n + 1, by omega, by omega, hm, bm, g2, (show bm ≤ bu - 0 by omega), en_Ct_mono hM ?_⟩
  rintro _ M2 ⟨rfl, hc2, hb2⟩
  exact ⟨fun _ => ih M2 _ hc2 (by omega), fun z => absurd rfl z⟩
theorem lw_c5 (C : lw_C p s m meth c b L xs cd D cs) {n : Nat} (hn : n + 6 ≤ L) {M : Mm} {bu : Nat} (hc : cpl M) (hb : bl M ≤ bu) (ih : ∀ (M2 : Mm) (bu2 : Nat), cpl M2 → bl M2 ≤ bu2 → lw_W p l e s m below meth c b L cd D cs ad0 1742 (lw_ls L n) [] M2 bu2) : lw_W p l e s m below meth c b L cd D cs ad0 488 (lw_ls L n) [] M bu := by
  obtain ⟨hx, g1, hX⟩ := S_show (lw_rg xs (n + 1)) (lw_rg xs (n + 2)) M hc
  refine lw_st C lw_i488_ok ⟨n + 1, by omega, by omega, n + 2, by omega, by omega, hx, 0, g1, Nat.zero_le _, en_Ct_mono hX ?_⟩
  rintro _ M1 ⟨a, rfl, hm, bm, g2, g3, hM⟩
  refine ⟨n + 1, by omega, by omega, n + 2, by omega, by omega, hm, bm, g2, (show bm ≤ bu - 0 by omega), en_Ct_mono hM ?_⟩
  rintro _ M2 ⟨rfl, hc2, hb2⟩
  exact ⟨fun _ => ih M2 _ hc2 (by omega), fun z => absurd rfl z⟩
theorem lw_c6 (C : lw_C p s m meth c b L xs cd D cs) {n : Nat} (hn : n + 6 ≤ L) {M : Mm} {bu : Nat} (hc : cpl M) (hb : bl M ≤ bu) (ih : ∀ (M2 : Mm) (bu2 : Nat), cpl M2 → bl M2 ≤ bu2 → lw_W p l e s m below meth c b L cd D cs ad0 1742 (lw_ls L n) [] M2 bu2) : lw_W p l e s m below meth c b L cd D cs ad0 521 (lw_ls L n) [] M bu := by
  obtain ⟨hx, g1, hX⟩ := S_says (lw_rg xs (n + 1)) (lw_rg xs (n + 2)) M hc
  refine lw_st C lw_i521_ok ⟨n + 1, by omega, by omega, n + 2, by omega, by omega, hx, 0, g1, Nat.zero_le _, en_Ct_mono hX ?_⟩
  rintro _ M1 ⟨a, rfl, hm, bm, g2, g3, hM⟩
  refine ⟨n + 1, by omega, by omega, n + 2, by omega, by omega, hm, bm, g2, (show bm ≤ bu - 0 by omega), en_Ct_mono hM ?_⟩
  rintro _ M2 ⟨rfl, hc2, hb2⟩
  exact ⟨fun _ => ih M2 _ hc2 (by omega), fun z => absurd rfl z⟩
theorem lw_c7 (C : lw_C p s m meth c b L xs cd D cs) {n : Nat} (hn : n + 6 ≤ L) {M : Mm} {bu : Nat} (hc : cpl M) (hb : bl M ≤ bu) (ih : ∀ (M2 : Mm) (bu2 : Nat), cpl M2 → bl M2 ≤ bu2 → lw_W p l e s m below meth c b L cd D cs ad0 1742 (lw_ls L n) [] M2 bu2) : lw_W p l e s m below meth c b L cd D cs ad0 554 (lw_ls L n) [] M bu := by
  obtain ⟨hx, g1, hX⟩ := S_columns (lw_rg xs (n + 1)) M hc
  refine lw_st C lw_i554_ok ⟨n + 1, by omega, by omega, hx, 0, g1, Nat.zero_le _, en_Ct_mono hX ?_⟩
  rintro _ M1 ⟨a, rfl, hm, bm, g2, g3, hM⟩
  refine ⟨n + 1, by omega, by omega, hm, bm, g2, (show bm ≤ bu - 0 by omega), en_Ct_mono hM ?_⟩
  rintro _ M2 ⟨rfl, hc2, hb2⟩
  exact ⟨fun _ => ih M2 _ hc2 (by omega), fun z => absurd rfl z⟩
theorem lw_c8 (C : lw_C p s m meth c b L xs cd D cs) {n : Nat} (hn : n + 6 ≤ L) {M : Mm} {bu : Nat} (hc : cpl M) (hb : bl M ≤ bu) (ih : ∀ (M2 : Mm) (bu2 : Nat), cpl M2 → bl M2 ≤ bu2 → lw_W p l e s m below meth c b L cd D cs ad0 1742 (lw_ls L n) [] M2 bu2) : lw_W p l e s m below meth c b L cd D cs ad0 577 (lw_ls L n) [] M bu := by
  obtain ⟨hx, g1, hX⟩ := S_word (lw_rg xs (n + 1)) (lw_rg xs (n + 2)) (lw_rg xs (n + 3)) (lw_rg xs (n + 4)) (lw_rg xs (n + 5)) M hc
  refine lw_st C lw_i577_ok ⟨n + 1, by omega, by omega, n + 2, by omega, by omega, n + 3, by omega, by omega, n + 4, by omega, by omega, n + 5, by omega, by omega, hx, 0, g1, Nat.zero_le _, en_Ct_mono hX ?_⟩
  rintro _ M1 ⟨a, rfl, hm, bm, g2, g3, hM⟩
  refine ⟨n + 1, by omega, by omega, n + 2, by omega, by omega, n + 3, by omega, by omega, n + 4, by omega, by omega, n + 5, by omega, by omega, hm, bm, g2, (show bm ≤ bu - 0 by omega), en_Ct_mono hM ?_⟩
  rintro _ M2 ⟨rfl, hc2, hb2⟩
  exact ⟨fun _ => ih M2 _ hc2 (by omega), fun z => absurd rfl z⟩
theorem lw_c9 (C : lw_C p s m meth c b L xs cd D cs) {n : Nat} (hn : n + 6 ≤ L) {M : Mm} {bu : Nat} (hc : cpl M) (hb : bl M ≤ bu) (ih : ∀ (M2 : Mm) (bu2 : Nat), cpl M2 → bl M2 ≤ bu2 → lw_W p l e s m below meth c b L cd D cs ad0 1742 (lw_ls L n) [] M2 bu2) : lw_W p l e s m below meth c b L cd D cs ad0 640 (lw_ls L n) [] M bu := by
  obtain ⟨hx, g1, hX⟩ := S_person M hc
  refine lw_st C lw_i640_ok ⟨hx, 0, g1, Nat.zero_le _, en_Ct_mono hX ?_⟩
  rintro _ M1 ⟨a, rfl, hm, bm, g2, g3, hM⟩
  refine ⟨hm, bm, g2, (show bm ≤ bu - 0 by omega), en_Ct_mono hM ?_⟩
  rintro _ M2 ⟨rfl, hc2, hb2⟩
  exact ⟨fun _ => ih M2 _ hc2 (by omega), fun z => absurd rfl z⟩
theorem lw_knows4 (C : lw_C p s m meth c b L xs cd D cs) {n : Nat} {M : Mm} {bu : Nat} {x y z a : Int} (ih : ∀ (M2 : Mm) (bu2 : Nat), cpl M2 → bl M2 ≤ bu2 → lw_W p l e s m below meth c b L cd D cs ad0 1742 (lw_ls L n) [] M2 bu2) {hm bm N : Nat} (g2 : hm < 60) (g3 : bm ≤ bu) (hN : N ≤ bu) (hM : en_Ct hm bm 161 [.inr (.inr (1, 6, 84)), .inl x, .inl y, .inl z] M (fun r2 M2 => r2 = some (.inl a) ∧ cpl M2 ∧ bm + bl M2 ≤ N)) : lw_W p l e s m below meth c b L cd D cs ad0 704 (lw_ls L n) [.inl z, .inl y, .inl x, .inr (.inr (1, 6, 84)), .inl a] M bu := by
  refine lw_st C lw_i704_ok ⟨hm, bm, g2, g3, en_Ct_mono hM ?_⟩
  rintro _ M2 ⟨rfl, hc2, hb2⟩
  exact ⟨fun _ => ih M2 _ hc2 (by omega), fun z => absurd rfl z⟩
theorem lw_knows2 (C : lw_C p s m meth c b L xs cd D cs) {n : Nat} (hn : n + 6 ≤ L) {M : Mm} {bu : Nat} (hc : cpl M) (hb : bl M ≤ bu) (ih : ∀ (M2 : Mm) (bu2 : Nat), cpl M2 → bl M2 ≤ bu2 → lw_W p l e s m below meth c b L cd D cs ad0 1742 (lw_ls L n) [] M2 bu2) {z : Int} (hz : (lw_f xs (n + 3) = 0 ∧ z = 0) ∨ (lw_f xs (n + 3) ≠ 0 ∧ z = 1)) : lw_W p l e s m below meth c b L cd D cs ad0 677 (lw_ls L n) [.inl z, .inl (lw_f xs (n + 2)), .inl (lw_f xs (n + 1)), .inr (.inr (1, 5, 0))] M bu := by
  obtain ⟨hx, g1, hX⟩ := S_knows (x := lw_f xs (n + 1)) (y := lw_f xs (n + 2)) (z := z) (by omega) (lw_rg xs (n + 1)) (lw_rg xs (n + 2)) (by omega) M hc
  refine lw_st C lw_i677_ok ⟨hx, 0, g1, Nat.zero_le _, en_Ct_mono hX ?_⟩
  rintro _ M1 ⟨a, rfl, hm, bm, g2, g3, hM⟩
  have r3 : en_wr (lw_f xs (n + 3)) = lw_f xs (n + 3) := en_wr_of (lw_rg xs (n + 3))
  refine ⟨n + 1, by omega, by omega, n + 2, by omega, by omega, n + 3, by omega, by omega, fun q => ?_, fun q => ?_⟩
  · have q : en_wr (lw_f xs (n + 3)) = en_wr 0 := q
    have q0 : lw_f xs (n + 3) = 0 := by rw [← r3, q]; rfl
    have z0 : z = 0 := by omega
    subst z0
    exact lw_st C lw_i703_ok (lw_knows4 C ih g2 (show bm ≤ bu - 0 by omega) (show bl M ≤ bu - 0 by omega) hM)
  · have q0 : lw_f xs (n + 3) ≠ 0 := fun z => q (by show en_wr (lw_f xs (n + 3)) = en_wr 0; rw [z])
    have z1 : z = 1 := by omega
    subst z1
    exact lw_knows4 C ih g2 (show bm ≤ bu - 0 by omega) (show bl M ≤ bu - 0 by omega) hM
theorem lw_c10 (C : lw_C p s m meth c b L xs cd D cs) {n : Nat} (hn : n + 6 ≤ L) {M : Mm} {bu : Nat} (hc : cpl M) (hb : bl M ≤ bu) (ih : ∀ (M2 : Mm) (bu2 : Nat), cpl M2 → bl M2 ≤ bu2 → lw_W p l e s m below meth c b L cd D cs ad0 1742 (lw_ls L n) [] M2 bu2) : lw_W p l e s m below meth c b L cd D cs ad0 653 (lw_ls L n) [] M bu := by
  have r3 : en_wr (lw_f xs (n + 3)) = lw_f xs (n + 3) := en_wr_of (lw_rg xs (n + 3))
  refine lw_st C lw_i653_ok ⟨n + 1, by omega, by omega, n + 2, by omega, by omega, n + 3, by omega, by omega, fun q => ?_, fun q => ?_⟩
  · have q : en_wr (lw_f xs (n + 3)) = en_wr 0 := q
    have q0 : lw_f xs (n + 3) = 0 := by rw [← r3, q]; rfl
    exact lw_st C lw_i676_ok (lw_knows2 C hn hc hb ih (z := 0) (Or.inl ⟨q0, rfl⟩))
  · have q0 : lw_f xs (n + 3) ≠ 0 := fun z => q (by show en_wr (lw_f xs (n + 3)) = en_wr 0; rw [z])
    exact lw_knows2 C hn hc hb ih (z := 1) (Or.inr ⟨q0, rfl⟩)
theorem lw_c11 (C : lw_C p s m meth c b L xs cd D cs) {n : Nat} (hn : n + 6 ≤ L) {M : Mm} {bu : Nat} (hc : cpl M) (hb : bl M ≤ bu) (ih : ∀ (M2 : Mm) (bu2 : Nat), cpl M2 → bl M2 ≤ bu2 → lw_W p l e s m below meth c b L cd D cs ad0 1742 (lw_ls L n) [] M2 bu2) : lw_W p l e s m below meth c b L cd D cs ad0 712 (lw_ls L n) [] M bu := by
  obtain ⟨hx, g1, hX⟩ := S_ask (lw_rg xs (n + 1)) (lw_rg xs (n + 2)) M hc
  refine lw_st C lw_i712_ok ⟨n + 1, by omega, by omega, n + 2, by omega, by omega, hx, 0, g1, Nat.zero_le _, en_Ct_mono hX ?_⟩
  rintro _ M1 ⟨a, rfl, hm, bm, g2, g3, hM⟩
  refine ⟨n + 1, by omega, by omega, n + 2, by omega, by omega, hm, bm, g2, (show bm ≤ bu - 0 by omega), en_Ct_mono hM ?_⟩
  rintro _ M2 ⟨rfl, hc2, hb2⟩
  exact ⟨fun _ => ih M2 _ hc2 (by omega), fun z => absurd rfl z⟩
theorem lw_c12 (C : lw_C p s m meth c b L xs cd D cs) {n : Nat} (hn : n + 6 ≤ L) {M : Mm} {bu : Nat} (hc : cpl M) (hb : bl M ≤ bu) (ih : ∀ (M2 : Mm) (bu2 : Nat), cpl M2 → bl M2 ≤ bu2 → lw_W p l e s m below meth c b L cd D cs ad0 1742 (lw_ls L n) [] M2 bu2) : lw_W p l e s m below meth c b L cd D cs ad0 745 (lw_ls L n) [] M bu := by
  obtain ⟨hx, g1, hX⟩ := S_sheet (lw_rg xs (n + 1)) (lw_rg xs (n + 2)) (lw_rg xs (n + 3)) M hc
  refine lw_st C lw_i745_ok ⟨n + 1, by omega, by omega, n + 2, by omega, by omega, n + 3, by omega, by omega, hx, 0, g1, Nat.zero_le _, en_Ct_mono hX ?_⟩
  rintro _ M1 ⟨a, rfl, hm, bm, g2, g3, hM⟩
  refine ⟨n + 1, by omega, by omega, n + 2, by omega, by omega, n + 3, by omega, by omega, hm, bm, g2, (show bm ≤ bu - 0 by omega), en_Ct_mono hM ?_⟩
  rintro _ M2 ⟨rfl, hc2, hb2⟩
  exact ⟨fun _ => ih M2 _ hc2 (by omega), fun z => absurd rfl z⟩
theorem lw_c13 (C : lw_C p s m meth c b L xs cd D cs) {n : Nat} (hn : n + 6 ≤ L) {M : Mm} {bu : Nat} (hc : cpl M) (hb : bl M ≤ bu) (ih : ∀ (M2 : Mm) (bu2 : Nat), cpl M2 → bl M2 ≤ bu2 → lw_W p l e s m below meth c b L cd D cs ad0 1742 (lw_ls L n) [] M2 bu2) : lw_W p l e s m below meth c b L cd D cs ad0 788 (lw_ls L n) [] M bu := by
  obtain ⟨hx, g1, hX⟩ := S_feed (lw_rg xs (n + 1)) M hc
  refine lw_st C lw_i788_ok ⟨n + 1, by omega, by omega, hx, 0, g1, Nat.zero_le _, en_Ct_mono hX ?_⟩
  rintro _ M1 ⟨a, rfl, hm, bm, g2, g3, hM⟩
  refine ⟨n + 1, by omega, by omega, hm, bm, g2, (show bm ≤ bu - 0 by omega), en_Ct_mono hM ?_⟩
  rintro _ M2 ⟨rfl, hc2, hb2⟩
  exact ⟨fun _ => ih M2 _ hc2 (by omega), fun z => absurd rfl z⟩
theorem lw_c14 (C : lw_C p s m meth c b L xs cd D cs) {n : Nat} (hn : n + 6 ≤ L) {M : Mm} {bu : Nat} (hc : cpl M) (hb : bl M ≤ bu) (ih : ∀ (M2 : Mm) (bu2 : Nat), cpl M2 → bl M2 ≤ bu2 → lw_W p l e s m below meth c b L cd D cs ad0 1742 (lw_ls L n) [] M2 bu2) : lw_W p l e s m below meth c b L cd D cs ad0 811 (lw_ls L n) [] M bu := by
  obtain ⟨hx, g1, hX⟩ := S_wipe M hc
  refine lw_st C lw_i811_ok ⟨hx, 0, g1, Nat.zero_le _, en_Ct_mono hX ?_⟩
  rintro _ M1 ⟨a, rfl, hm, bm, g2, g3, hM⟩
  refine ⟨hm, bm, g2, (show bm ≤ bu - 0 by omega), en_Ct_mono hM ?_⟩
  rintro _ M2 ⟨rfl, hc2, hb2⟩
  exact ⟨fun _ => ih M2 _ hc2 (by omega), fun z => absurd rfl z⟩
theorem lw_c15 (C : lw_C p s m meth c b L xs cd D cs) {n : Nat} (hn : n + 6 ≤ L) {M : Mm} {bu : Nat} (hc : cpl M) (hb : bl M ≤ bu) (ih : ∀ (M2 : Mm) (bu2 : Nat), cpl M2 → bl M2 ≤ bu2 → lw_W p l e s m below meth c b L cd D cs ad0 1742 (lw_ls L n) [] M2 bu2) : lw_W p l e s m below meth c b L cd D cs ad0 824 (lw_ls L n) [] M bu := by
  obtain ⟨hx, g1, hX⟩ := S_evening freshC_is M hc
  refine lw_st C lw_i824_ok ⟨hx, 0, g1, Nat.zero_le _, en_Ct_mono hX ?_⟩
  rintro _ M1 ⟨a, rfl, hm, bm, g2, g3, hM⟩
  refine ⟨hm, bm, g2, (show bm ≤ bu - 0 by omega), en_Ct_mono hM ?_⟩
  rintro _ M2 ⟨rfl, hc2, hb2⟩
  exact ⟨fun _ => ih M2 _ hc2 (by omega), fun z => absurd rfl z⟩
theorem lw_c16 (C : lw_C p s m meth c b L xs cd D cs) {n : Nat} (hn : n + 6 ≤ L) {M : Mm} {bu : Nat} (hc : cpl M) (hb : bl M ≤ bu) (ih : ∀ (M2 : Mm) (bu2 : Nat), cpl M2 → bl M2 ≤ bu2 → lw_W p l e s m below meth c b L cd D cs ad0 1742 (lw_ls L n) [] M2 bu2) : lw_W p l e s m below meth c b L cd D cs ad0 837 (lw_ls L n) [] M bu := by
  obtain ⟨hx, g1, hX⟩ := S_wordOf (lw_rg xs (n + 1)) (lw_rg xs (n + 2)) M hc
  refine lw_st C lw_i837_ok ⟨n + 1, by omega, by omega, n + 2, by omega, by omega, hx, 0, g1, Nat.zero_le _, en_Ct_mono hX ?_⟩
  rintro _ M1 ⟨a, rfl, hm, bm, g2, g3, hM⟩
  refine ⟨n + 1, by omega, by omega, n + 2, by omega, by omega, hm, bm, g2, (show bm ≤ bu - 0 by omega), en_Ct_mono hM ?_⟩
  rintro _ M2 ⟨rfl, hc2, hb2⟩
  exact ⟨fun _ => ih M2 _ hc2 (by omega), fun z => absurd rfl z⟩
theorem lw_c17 (C : lw_C p s m meth c b L xs cd D cs) {n : Nat} (hn : n + 6 ≤ L) {M : Mm} {bu : Nat} (hc : cpl M) (hb : bl M ≤ bu) (ih : ∀ (M2 : Mm) (bu2 : Nat), cpl M2 → bl M2 ≤ bu2 → lw_W p l e s m below meth c b L cd D cs ad0 1742 (lw_ls L n) [] M2 bu2) : lw_W p l e s m below meth c b L cd D cs ad0 870 (lw_ls L n) [] M bu := by
  obtain ⟨hx, g1, hX⟩ := S_sheetOf (lw_rg xs (n + 1)) (lw_rg xs (n + 2)) M hc
  refine lw_st C lw_i870_ok ⟨n + 1, by omega, by omega, n + 2, by omega, by omega, hx, 0, g1, Nat.zero_le _, en_Ct_mono hX ?_⟩
  rintro _ M1 ⟨a, rfl, hm, bm, g2, g3, hM⟩
  refine ⟨n + 1, by omega, by omega, n + 2, by omega, by omega, hm, bm, g2, (show bm ≤ bu - 0 by omega), en_Ct_mono hM ?_⟩
  rintro _ M2 ⟨rfl, hc2, hb2⟩
  exact ⟨fun _ => ih M2 _ hc2 (by omega), fun z => absurd rfl z⟩
theorem lw_c18 (C : lw_C p s m meth c b L xs cd D cs) {n : Nat} (hn : n + 6 ≤ L) {M : Mm} {bu : Nat} (hc : cpl M) (hb : bl M ≤ bu) (ih : ∀ (M2 : Mm) (bu2 : Nat), cpl M2 → bl M2 ≤ bu2 → lw_W p l e s m below meth c b L cd D cs ad0 1742 (lw_ls L n) [] M2 bu2) : lw_W p l e s m below meth c b L cd D cs ad0 903 (lw_ls L n) [] M bu := by
  obtain ⟨hx, g1, hX⟩ := S_score (lw_rg xs (n + 1)) M hc
  refine lw_st C lw_i903_ok ⟨n + 1, by omega, by omega, hx, 0, g1, Nat.zero_le _, en_Ct_mono hX ?_⟩
  rintro _ M1 ⟨a, rfl, hm, bm, g2, g3, hM⟩
  refine ⟨n + 1, by omega, by omega, hm, bm, g2, (show bm ≤ bu - 0 by omega), en_Ct_mono hM ?_⟩
  rintro _ M2 ⟨rfl, hc2, hb2⟩
  exact ⟨fun _ => ih M2 _ hc2 (by omega), fun z => absurd rfl z⟩
theorem lw_c19 (C : lw_C p s m meth c b L xs cd D cs) {n : Nat} (hn : n + 6 ≤ L) {M : Mm} {bu : Nat} (hc : cpl M) (hb : bl M ≤ bu) (ih : ∀ (M2 : Mm) (bu2 : Nat), cpl M2 → bl M2 ≤ bu2 → lw_W p l e s m below meth c b L cd D cs ad0 1742 (lw_ls L n) [] M2 bu2) : lw_W p l e s m below meth c b L cd D cs ad0 926 (lw_ls L n) [] M bu := by
  obtain ⟨hx, g1, hX⟩ := S_call M hc
  refine lw_st C lw_i926_ok ⟨hx, 0, g1, Nat.zero_le _, en_Ct_mono hX ?_⟩
  rintro _ M1 ⟨a, rfl, hm, bm, g2, g3, hM⟩
  refine ⟨hm, bm, g2, (show bm ≤ bu - 0 by omega), en_Ct_mono hM ?_⟩
  rintro _ M2 ⟨rfl, hc2, hb2⟩
  exact ⟨fun _ => ih M2 _ hc2 (by omega), fun z => absurd rfl z⟩
theorem lw_c20 (C : lw_C p s m meth c b L xs cd D cs) {n : Nat} (hn : n + 6 ≤ L) {M : Mm} {bu : Nat} (hc : cpl M) (hb : bl M ≤ bu) (ih : ∀ (M2 : Mm) (bu2 : Nat), cpl M2 → bl M2 ≤ bu2 → lw_W p l e s m below meth c b L cd D cs ad0 1742 (lw_ls L n) [] M2 bu2) : lw_W p l e s m below meth c b L cd D cs ad0 939 (lw_ls L n) [] M bu := by
  obtain ⟨hx, g1, hX⟩ := S_caller M hc
  refine lw_st C lw_i939_ok ⟨hx, 0, g1, Nat.zero_le _, en_Ct_mono hX ?_⟩
  rintro _ M1 ⟨a, rfl, hm, bm, g2, g3, hM⟩
  refine ⟨hm, bm, g2, (show bm ≤ bu - 0 by omega), en_Ct_mono hM ?_⟩
  rintro _ M2 ⟨rfl, hc2, hb2⟩
  exact ⟨fun _ => ih M2 _ hc2 (by omega), fun z => absurd rfl z⟩
theorem lw_c21 (C : lw_C p s m meth c b L xs cd D cs) {n : Nat} (hn : n + 6 ≤ L) {M : Mm} {bu : Nat} (hc : cpl M) (hb : bl M ≤ bu) (ih : ∀ (M2 : Mm) (bu2 : Nat), cpl M2 → bl M2 ≤ bu2 → lw_W p l e s m below meth c b L cd D cs ad0 1742 (lw_ls L n) [] M2 bu2) : lw_W p l e s m below meth c b L cd D cs ad0 952 (lw_ls L n) [] M bu := by
  obtain ⟨hx, g1, hX⟩ := S_written (lw_rg xs (n + 1)) (lw_rg xs (n + 2)) M hc
  refine lw_st C lw_i952_ok ⟨n + 1, by omega, by omega, n + 2, by omega, by omega, hx, 0, g1, Nat.zero_le _, en_Ct_mono hX ?_⟩
  rintro _ M1 ⟨a, rfl, hm, bm, g2, g3, hM⟩
  refine ⟨n + 1, by omega, by omega, n + 2, by omega, by omega, hm, bm, g2, (show bm ≤ bu - 0 by omega), en_Ct_mono hM ?_⟩
  rintro _ M2 ⟨rfl, hc2, hb2⟩
  exact ⟨fun _ => ih M2 _ hc2 (by omega), fun z => absurd rfl z⟩
theorem lw_c22 (C : lw_C p s m meth c b L xs cd D cs) {n : Nat} (hn : n + 6 ≤ L) {M : Mm} {bu : Nat} (hc : cpl M) (hb : bl M ≤ bu) (ih : ∀ (M2 : Mm) (bu2 : Nat), cpl M2 → bl M2 ≤ bu2 → lw_W p l e s m below meth c b L cd D cs ad0 1742 (lw_ls L n) [] M2 bu2) : lw_W p l e s m below meth c b L cd D cs ad0 985 (lw_ls L n) [] M bu := by
  obtain ⟨hx, g1, hX⟩ := S_kept (lw_rg xs (n + 1)) M hc
  refine lw_st C lw_i985_ok ⟨n + 1, by omega, by omega, hx, 0, g1, Nat.zero_le _, en_Ct_mono hX ?_⟩
  rintro _ M1 ⟨a, rfl, hm, bm, g2, g3, hM⟩
  refine ⟨n + 1, by omega, by omega, hm, bm, g2, (show bm ≤ bu - 0 by omega), en_Ct_mono hM ?_⟩
  rintro _ M2 ⟨rfl, hc2, hb2⟩
  exact ⟨fun _ => ih M2 _ hc2 (by omega), fun z => absurd rfl z⟩
theorem lw_c23 (C : lw_C p s m meth c b L xs cd D cs) {n : Nat} (hn : n + 6 ≤ L) {M : Mm} {bu : Nat} (hc : cpl M) (hb : bl M ≤ bu) (ih : ∀ (M2 : Mm) (bu2 : Nat), cpl M2 → bl M2 ≤ bu2 → lw_W p l e s m below meth c b L cd D cs ad0 1742 (lw_ls L n) [] M2 bu2) : lw_W p l e s m below meth c b L cd D cs ad0 1008 (lw_ls L n) [] M bu := by
  obtain ⟨hx, g1, hX⟩ := S_points (lw_rg xs (n + 1)) (lw_rg xs (n + 2)) M hc
  refine lw_st C lw_i1008_ok ⟨n + 1, by omega, by omega, n + 2, by omega, by omega, hx, 0, g1, Nat.zero_le _, en_Ct_mono hX ?_⟩
  rintro _ M1 ⟨a, rfl, hm, bm, g2, g3, hM⟩
  refine ⟨n + 1, by omega, by omega, n + 2, by omega, by omega, hm, bm, g2, (show bm ≤ bu - 0 by omega), en_Ct_mono hM ?_⟩
  rintro _ M2 ⟨rfl, hc2, hb2⟩
  exact ⟨fun _ => ih M2 _ hc2 (by omega), fun z => absurd rfl z⟩
theorem lw_c24 (C : lw_C p s m meth c b L xs cd D cs) {n : Nat} (hn : n + 6 ≤ L) {M : Mm} {bu : Nat} (hc : cpl M) (hb : bl M ≤ bu) (ih : ∀ (M2 : Mm) (bu2 : Nat), cpl M2 → bl M2 ≤ bu2 → lw_W p l e s m below meth c b L cd D cs ad0 1742 (lw_ls L n) [] M2 bu2) : lw_W p l e s m below meth c b L cd D cs ad0 1041 (lw_ls L n) [] M bu := by
  obtain ⟨hx, g1, hX⟩ := S_winner M hc
  refine lw_st C lw_i1041_ok ⟨hx, 0, g1, Nat.zero_le _, en_Ct_mono hX ?_⟩
  rintro _ M1 ⟨a, rfl, hm, bm, g2, g3, hM⟩
  refine ⟨hm, bm, g2, (show bm ≤ bu - 0 by omega), en_Ct_mono hM ?_⟩
  rintro _ M2 ⟨rfl, hc2, hb2⟩
  exact ⟨fun _ => ih M2 _ hc2 (by omega), fun z => absurd rfl z⟩
theorem lw_c25 (C : lw_C p s m meth c b L xs cd D cs) {n : Nat} (hn : n + 6 ≤ L) {M : Mm} {bu : Nat} (hc : cpl M) (hb : bl M ≤ bu) (ih : ∀ (M2 : Mm) (bu2 : Nat), cpl M2 → bl M2 ≤ bu2 → lw_W p l e s m below meth c b L cd D cs ad0 1742 (lw_ls L n) [] M2 bu2) : lw_W p l e s m below meth c b L cd D cs ad0 1054 (lw_ls L n) [] M bu := by
  obtain ⟨hx, g1, hX⟩ := S_best freshC_is (lw_rg xs (n + 1)) (lw_rg xs (n + 2)) M hc
  refine lw_st C lw_i1054_ok ⟨n + 1, by omega, by omega, n + 2, by omega, by omega, hx, 0, g1, Nat.zero_le _, en_Ct_mono hX ?_⟩
  rintro _ M1 ⟨a, rfl, hm, bm, g2, g3, hM⟩
  refine ⟨n + 1, by omega, by omega, n + 2, by omega, by omega, hm, bm, g2, (show bm ≤ bu - 0 by omega), en_Ct_mono hM ?_⟩
  rintro _ M2 ⟨rfl, hc2, hb2⟩
  exact ⟨fun _ => ih M2 _ hc2 (by omega), fun z => absurd rfl z⟩
theorem lw_c26 (C : lw_C p s m meth c b L xs cd D cs) {n : Nat} (hn : n + 6 ≤ L) {M : Mm} {bu : Nat} (hc : cpl M) (hb : bl M ≤ bu) (ih : ∀ (M2 : Mm) (bu2 : Nat), cpl M2 → bl M2 ≤ bu2 → lw_W p l e s m below meth c b L cd D cs ad0 1742 (lw_ls L n) [] M2 bu2) : lw_W p l e s m below meth c b L cd D cs ad0 1087 (lw_ls L n) [] M bu := by
  obtain ⟨hx, g1, hX⟩ := S_order freshC_is (lw_rg xs (n + 1)) (lw_rg xs (n + 2)) M hc
  refine lw_st C lw_i1087_ok ⟨n + 1, by omega, by omega, n + 2, by omega, by omega, hx, 0, g1, Nat.zero_le _, en_Ct_mono hX ?_⟩
  rintro _ M1 ⟨a, rfl, hm, bm, g2, g3, hM⟩
  refine ⟨n + 1, by omega, by omega, n + 2, by omega, by omega, hm, bm, g2, (show bm ≤ bu - 0 by omega), en_Ct_mono hM ?_⟩
  rintro _ M2 ⟨rfl, hc2, hb2⟩
  exact ⟨fun _ => ih M2 _ hc2 (by omega), fun z => absurd rfl z⟩
theorem lw_c27 (C : lw_C p s m meth c b L xs cd D cs) {n : Nat} (hn : n + 6 ≤ L) {M : Mm} {bu : Nat} (hc : cpl M) (hb : bl M ≤ bu) (ih : ∀ (M2 : Mm) (bu2 : Nat), cpl M2 → bl M2 ≤ bu2 → lw_W p l e s m below meth c b L cd D cs ad0 1742 (lw_ls L n) [] M2 bu2) : lw_W p l e s m below meth c b L cd D cs ad0 1120 (lw_ls L n) [] M bu := by
  obtain ⟨hx, g1, hX⟩ := S_swap (lw_rg xs (n + 1)) (lw_rg xs (n + 2)) (lw_rg xs (n + 3)) M hc
  refine lw_st C lw_i1120_ok ⟨n + 1, by omega, by omega, n + 2, by omega, by omega, n + 3, by omega, by omega, hx, 0, g1, Nat.zero_le _, en_Ct_mono hX ?_⟩
  rintro _ M1 ⟨a, rfl, hm, bm, g2, g3, hM⟩
  refine ⟨n + 1, by omega, by omega, n + 2, by omega, by omega, n + 3, by omega, by omega, hm, bm, g2, (show bm ≤ bu - 0 by omega), en_Ct_mono hM ?_⟩
  rintro _ M2 ⟨rfl, hc2, hb2⟩
  exact ⟨fun _ => ih M2 _ hc2 (by omega), fun z => absurd rfl z⟩
theorem lw_c28 (C : lw_C p s m meth c b L xs cd D cs) {n : Nat} (hn : n + 6 ≤ L) {M : Mm} {bu : Nat} (hc : cpl M) (hb : bl M ≤ bu) (ih : ∀ (M2 : Mm) (bu2 : Nat), cpl M2 → bl M2 ≤ bu2 → lw_W p l e s m below meth c b L cd D cs ad0 1742 (lw_ls L n) [] M2 bu2) : lw_W p l e s m below meth c b L cd D cs ad0 1163 (lw_ls L n) [] M bu := by
  obtain ⟨hx, g1, hX⟩ := S_bestWord freshC_is (lw_rg xs (n + 1)) (lw_rg xs (n + 2)) M hc
  refine lw_st C lw_i1163_ok ⟨n + 1, by omega, by omega, n + 2, by omega, by omega, hx, 0, g1, Nat.zero_le _, en_Ct_mono hX ?_⟩
  rintro _ M1 ⟨a, rfl, hm, bm, g2, g3, hM⟩
  refine ⟨n + 1, by omega, by omega, n + 2, by omega, by omega, hm, bm, g2, (show bm ≤ bu - 0 by omega), en_Ct_mono hM ?_⟩
  rintro _ M2 ⟨rfl, hc2, hb2⟩
  exact ⟨fun _ => ih M2 _ hc2 (by omega), fun z => absurd rfl z⟩
theorem lw_c29 (C : lw_C p s m meth c b L xs cd D cs) {n : Nat} (hn : n + 6 ≤ L) {M : Mm} {bu : Nat} (hc : cpl M) (hb : bl M ≤ bu) (ih : ∀ (M2 : Mm) (bu2 : Nat), cpl M2 → bl M2 ≤ bu2 → lw_W p l e s m below meth c b L cd D cs ad0 1742 (lw_ls L n) [] M2 bu2) : lw_W p l e s m below meth c b L cd D cs ad0 1196 (lw_ls L n) [] M bu := by
  obtain ⟨hx, g1, hX⟩ := S_learn freshC_is (lw_rg xs (n + 1)) (lw_rg xs (n + 2)) M hc
  refine lw_st C lw_i1196_ok ⟨n + 1, by omega, by omega, n + 2, by omega, by omega, hx, 0, g1, Nat.zero_le _, en_Ct_mono hX ?_⟩
  rintro _ M1 ⟨a, rfl, hm, bm, g2, g3, hM⟩
  refine ⟨n + 1, by omega, by omega, n + 2, by omega, by omega, hm, bm, g2, (show bm ≤ bu - 0 by omega), en_Ct_mono hM ?_⟩
  rintro _ M2 ⟨rfl, hc2, hb2⟩
  exact ⟨fun _ => ih M2 _ hc2 (by omega), fun z => absurd rfl z⟩
theorem lw_c30 (C : lw_C p s m meth c b L xs cd D cs) {n : Nat} (hn : n + 6 ≤ L) {M : Mm} {bu : Nat} (hc : cpl M) (hb : bl M ≤ bu) (ih : ∀ (M2 : Mm) (bu2 : Nat), cpl M2 → bl M2 ≤ bu2 → lw_W p l e s m below meth c b L cd D cs ad0 1742 (lw_ls L n) [] M2 bu2) : lw_W p l e s m below meth c b L cd D cs ad0 1229 (lw_ls L n) [] M bu := by
  obtain ⟨hx, g1, hX⟩ := S_lonely (lw_rg xs (n + 1)) M hc
  refine lw_st C lw_i1229_ok ⟨n + 1, by omega, by omega, hx, 0, g1, Nat.zero_le _, en_Ct_mono hX ?_⟩
  rintro _ M1 ⟨a, rfl, hm, bm, g2, g3, hM⟩
  refine ⟨n + 1, by omega, by omega, hm, bm, g2, (show bm ≤ bu - 0 by omega), en_Ct_mono hM ?_⟩
  rintro _ M2 ⟨rfl, hc2, hb2⟩
  exact ⟨fun _ => ih M2 _ hc2 (by omega), fun z => absurd rfl z⟩
theorem lw_c31 (C : lw_C p s m meth c b L xs cd D cs) {n : Nat} (hn : n + 6 ≤ L) {M : Mm} {bu : Nat} (hc : cpl M) (hb : bl M ≤ bu) (ih : ∀ (M2 : Mm) (bu2 : Nat), cpl M2 → bl M2 ≤ bu2 → lw_W p l e s m below meth c b L cd D cs ad0 1742 (lw_ls L n) [] M2 bu2) : lw_W p l e s m below meth c b L cd D cs ad0 1252 (lw_ls L n) [] M bu := by
  obtain ⟨hx, g1, hX⟩ := S_fills (lw_rg xs (n + 1)) (lw_rg xs (n + 2)) M hc
  refine lw_st C lw_i1252_ok ⟨n + 1, by omega, by omega, n + 2, by omega, by omega, hx, 0, g1, Nat.zero_le _, en_Ct_mono hX ?_⟩
  rintro _ M1 ⟨a, rfl, hm, bm, g2, g3, hM⟩
  refine ⟨n + 1, by omega, by omega, n + 2, by omega, by omega, hm, bm, g2, (show bm ≤ bu - 0 by omega), en_Ct_mono hM ?_⟩
  rintro _ M2 ⟨rfl, hc2, hb2⟩
  exact ⟨fun _ => ih M2 _ hc2 (by omega), fun z => absurd rfl z⟩
theorem lw_c32 (C : lw_C p s m meth c b L xs cd D cs) {n : Nat} (hn : n + 6 ≤ L) {M : Mm} {bu : Nat} (hc : cpl M) (hb : bl M ≤ bu) (ih : ∀ (M2 : Mm) (bu2 : Nat), cpl M2 → bl M2 ≤ bu2 → lw_W p l e s m below meth c b L cd D cs ad0 1742 (lw_ls L n) [] M2 bu2) : lw_W p l e s m below meth c b L cd D cs ad0 1285 (lw_ls L n) [] M bu := by
  obtain ⟨hx, g1, hX⟩ := S_gains (lw_rg xs (n + 1)) M hc
  refine lw_st C lw_i1285_ok ⟨n + 1, by omega, by omega, hx, 0, g1, Nat.zero_le _, en_Ct_mono hX ?_⟩
  rintro _ M1 ⟨a, rfl, hm, bm, g2, g3, hM⟩
  refine ⟨n + 1, by omega, by omega, hm, bm, g2, (show bm ≤ bu - 0 by omega), en_Ct_mono hM ?_⟩
  rintro _ M2 ⟨rfl, hc2, hb2⟩
  exact ⟨fun _ => ih M2 _ hc2 (by omega), fun z => absurd rfl z⟩
theorem lw_c33 (C : lw_C p s m meth c b L xs cd D cs) {n : Nat} (hn : n + 6 ≤ L) {M : Mm} {bu : Nat} (hc : cpl M) (hb : bl M ≤ bu) (ih : ∀ (M2 : Mm) (bu2 : Nat), cpl M2 → bl M2 ≤ bu2 → lw_W p l e s m below meth c b L cd D cs ad0 1742 (lw_ls L n) [] M2 bu2) : lw_W p l e s m below meth c b L cd D cs ad0 1308 (lw_ls L n) [] M bu := by
  obtain ⟨hx, g1, hX⟩ := S_silent (lw_rg xs (n + 1)) (lw_rg xs (n + 2)) (lw_rg xs (n + 3)) M hc
  refine lw_st C lw_i1308_ok ⟨n + 1, by omega, by omega, n + 2, by omega, by omega, n + 3, by omega, by omega, hx, 0, g1, Nat.zero_le _, en_Ct_mono hX ?_⟩
  rintro _ M1 ⟨a, rfl, hm, bm, g2, g3, hM⟩
  refine ⟨n + 1, by omega, by omega, n + 2, by omega, by omega, n + 3, by omega, by omega, hm, bm, g2, (show bm ≤ bu - 0 by omega), en_Ct_mono hM ?_⟩
  rintro _ M2 ⟨rfl, hc2, hb2⟩
  exact ⟨fun _ => ih M2 _ hc2 (by omega), fun z => absurd rfl z⟩
theorem lw_c34 (C : lw_C p s m meth c b L xs cd D cs) {n : Nat} (hn : n + 6 ≤ L) {M : Mm} {bu : Nat} (hc : cpl M) (hb : bl M ≤ bu) (ih : ∀ (M2 : Mm) (bu2 : Nat), cpl M2 → bl M2 ≤ bu2 → lw_W p l e s m below meth c b L cd D cs ad0 1742 (lw_ls L n) [] M2 bu2) : lw_W p l e s m below meth c b L cd D cs ad0 1351 (lw_ls L n) [] M bu := by
  obtain ⟨hx, g1, hX⟩ := S_stop (lw_rg xs (n + 1)) (lw_rg xs (n + 2)) (lw_rg xs (n + 3)) M hc
  refine lw_st C lw_i1351_ok ⟨n + 1, by omega, by omega, n + 2, by omega, by omega, n + 3, by omega, by omega, hx, 0, g1, Nat.zero_le _, en_Ct_mono hX ?_⟩
  rintro _ M1 ⟨a, rfl, hm, bm, g2, g3, hM⟩
  refine ⟨n + 1, by omega, by omega, n + 2, by omega, by omega, n + 3, by omega, by omega, hm, bm, g2, (show bm ≤ bu - 0 by omega), en_Ct_mono hM ?_⟩
  rintro _ M2 ⟨rfl, hc2, hb2⟩
  exact ⟨fun _ => ih M2 _ hc2 (by omega), fun z => absurd rfl z⟩
theorem lw_c35 (C : lw_C p s m meth c b L xs cd D cs) {n : Nat} (hn : n + 6 ≤ L) {M : Mm} {bu : Nat} (hc : cpl M) (hb : bl M ≤ bu) (ih : ∀ (M2 : Mm) (bu2 : Nat), cpl M2 → bl M2 ≤ bu2 → lw_W p l e s m below meth c b L cd D cs ad0 1742 (lw_ls L n) [] M2 bu2) : lw_W p l e s m below meth c b L cd D cs ad0 1394 (lw_ls L n) [] M bu := by
  obtain ⟨hx, g1, hX⟩ := S_judge (lw_rg xs (n + 1)) (lw_rg xs (n + 2)) (lw_rg xs (n + 3)) M hc
  refine lw_st C lw_i1394_ok ⟨n + 1, by omega, by omega, n + 2, by omega, by omega, n + 3, by omega, by omega, hx, 0, g1, Nat.zero_le _, en_Ct_mono hX ?_⟩
  rintro _ M1 ⟨a, rfl, hm, bm, g2, g3, hM⟩
  refine ⟨n + 1, by omega, by omega, n + 2, by omega, by omega, n + 3, by omega, by omega, hm, bm, g2, (show bm ≤ bu - 0 by omega), en_Ct_mono hM ?_⟩
  rintro _ M2 ⟨rfl, hc2, hb2⟩
  exact ⟨fun _ => ih M2 _ hc2 (by omega), fun z => absurd rfl z⟩
theorem lw_c36 (C : lw_C p s m meth c b L xs cd D cs) {n : Nat} (hn : n + 6 ≤ L) {M : Mm} {bu : Nat} (hc : cpl M) (hb : bl M ≤ bu) (ih : ∀ (M2 : Mm) (bu2 : Nat), cpl M2 → bl M2 ≤ bu2 → lw_W p l e s m below meth c b L cd D cs ad0 1742 (lw_ls L n) [] M2 bu2) : lw_W p l e s m below meth c b L cd D cs ad0 1437 (lw_ls L n) [] M bu := by
  obtain ⟨hx, g1, hX⟩ := S_takes (lw_rg xs (n + 1)) (lw_rg xs (n + 2)) (lw_rg xs (n + 3)) M hc
  refine lw_st C lw_i1437_ok ⟨n + 1, by omega, by omega, n + 2, by omega, by omega, n + 3, by omega, by omega, hx, 0, g1, Nat.zero_le _, en_Ct_mono hX ?_⟩
  rintro _ M1 ⟨a, rfl, hm, bm, g2, g3, hM⟩
  refine ⟨n + 1, by omega, by omega, n + 2, by omega, by omega, n + 3, by omega, by omega, hm, bm, g2, (show bm ≤ bu - 0 by omega), en_Ct_mono hM ?_⟩
  rintro _ M2 ⟨rfl, hc2, hb2⟩
  exact ⟨fun _ => ih M2 _ hc2 (by omega), fun z => absurd rfl z⟩
theorem lw_c37 (C : lw_C p s m meth c b L xs cd D cs) {n : Nat} (hn : n + 6 ≤ L) {M : Mm} {bu : Nat} (hc : cpl M) (hb : bl M ≤ bu) (ih : ∀ (M2 : Mm) (bu2 : Nat), cpl M2 → bl M2 ≤ bu2 → lw_W p l e s m below meth c b L cd D cs ad0 1742 (lw_ls L n) [] M2 bu2) : lw_W p l e s m below meth c b L cd D cs ad0 1480 (lw_ls L n) [] M bu := by
  obtain ⟨hx, g1, hX⟩ := S_keptBy (lw_rg xs (n + 1)) M hc
  refine lw_st C lw_i1480_ok ⟨n + 1, by omega, by omega, hx, 0, g1, Nat.zero_le _, en_Ct_mono hX ?_⟩
  rintro _ M1 ⟨a, rfl, hm, bm, g2, g3, hM⟩
  refine ⟨n + 1, by omega, by omega, hm, bm, g2, (show bm ≤ bu - 0 by omega), en_Ct_mono hM ?_⟩
  rintro _ M2 ⟨rfl, hc2, hb2⟩
  exact ⟨fun _ => ih M2 _ hc2 (by omega), fun z => absurd rfl z⟩
theorem lw_c38 (C : lw_C p s m meth c b L xs cd D cs) {n : Nat} (hn : n + 6 ≤ L) {M : Mm} {bu : Nat} (hc : cpl M) (hb : bl M ≤ bu) (ih : ∀ (M2 : Mm) (bu2 : Nat), cpl M2 → bl M2 ≤ bu2 → lw_W p l e s m below meth c b L cd D cs ad0 1742 (lw_ls L n) [] M2 bu2) : lw_W p l e s m below meth c b L cd D cs ad0 1503 (lw_ls L n) [] M bu := by
  obtain ⟨hx, g1, hX⟩ := S_rival (lw_rg xs (n + 1)) M hc
  refine lw_st C lw_i1503_ok ⟨n + 1, by omega, by omega, hx, 0, g1, Nat.zero_le _, en_Ct_mono hX ?_⟩
  rintro _ M1 ⟨a, rfl, hm, bm, g2, g3, hM⟩
  refine ⟨n + 1, by omega, by omega, hm, bm, g2, (show bm ≤ bu - 0 by omega), en_Ct_mono hM ?_⟩
  rintro _ M2 ⟨rfl, hc2, hb2⟩
  exact ⟨fun _ => ih M2 _ hc2 (by omega), fun z => absurd rfl z⟩
theorem lw_c39 (C : lw_C p s m meth c b L xs cd D cs) {n : Nat} (hn : n + 6 ≤ L) {M : Mm} {bu : Nat} (hc : cpl M) (hb : bl M ≤ bu) (ih : ∀ (M2 : Mm) (bu2 : Nat), cpl M2 → bl M2 ≤ bu2 → lw_W p l e s m below meth c b L cd D cs ad0 1742 (lw_ls L n) [] M2 bu2) : lw_W p l e s m below meth c b L cd D cs ad0 1526 (lw_ls L n) [] M bu := by
  obtain ⟨hx, g1, hX⟩ := S_needFor (lw_rg xs (n + 1)) M hc
  refine lw_st C lw_i1526_ok ⟨n + 1, by omega, by omega, hx, 0, g1, Nat.zero_le _, en_Ct_mono hX ?_⟩
  rintro _ M1 ⟨a, rfl, hm, bm, g2, g3, hM⟩
  refine ⟨n + 1, by omega, by omega, hm, bm, g2, (show bm ≤ bu - 0 by omega), en_Ct_mono hM ?_⟩
  rintro _ M2 ⟨rfl, hc2, hb2⟩
  exact ⟨fun _ => ih M2 _ hc2 (by omega), fun z => absurd rfl z⟩
theorem lw_c40 (C : lw_C p s m meth c b L xs cd D cs) {n : Nat} (hn : n + 6 ≤ L) {M : Mm} {bu : Nat} (hc : cpl M) (hb : bl M ≤ bu) (ih : ∀ (M2 : Mm) (bu2 : Nat), cpl M2 → bl M2 ≤ bu2 → lw_W p l e s m below meth c b L cd D cs ad0 1742 (lw_ls L n) [] M2 bu2) : lw_W p l e s m below meth c b L cd D cs ad0 1549 (lw_ls L n) [] M bu := by
  obtain ⟨hx, g1, hX⟩ := S_late (lw_rg xs (n + 1)) M hc
  refine lw_st C lw_i1549_ok ⟨n + 1, by omega, by omega, hx, 0, g1, Nat.zero_le _, en_Ct_mono hX ?_⟩
  rintro _ M1 ⟨a, rfl, hm, bm, g2, g3, hM⟩
  refine ⟨n + 1, by omega, by omega, hm, bm, g2, (show bm ≤ bu - 0 by omega), en_Ct_mono hM ?_⟩
  rintro _ M2 ⟨rfl, hc2, hb2⟩
  exact ⟨fun _ => ih M2 _ hc2 (by omega), fun z => absurd rfl z⟩
theorem lw_c41 (C : lw_C p s m meth c b L xs cd D cs) {n : Nat} (hn : n + 6 ≤ L) {M : Mm} {bu : Nat} (hc : cpl M) (hb : bl M ≤ bu) (ih : ∀ (M2 : Mm) (bu2 : Nat), cpl M2 → bl M2 ≤ bu2 → lw_W p l e s m below meth c b L cd D cs ad0 1742 (lw_ls L n) [] M2 bu2) : lw_W p l e s m below meth c b L cd D cs ad0 1572 (lw_ls L n) [] M bu := by
  obtain ⟨hx, g1, hX⟩ := S_clashes M hc
  refine lw_st C lw_i1572_ok ⟨hx, 0, g1, Nat.zero_le _, en_Ct_mono hX ?_⟩
  rintro _ M1 ⟨a, rfl, hm, bm, g2, g3, hM⟩
  refine ⟨hm, bm, g2, (show bm ≤ bu - 0 by omega), en_Ct_mono hM ?_⟩
  rintro _ M2 ⟨rfl, hc2, hb2⟩
  exact ⟨fun _ => ih M2 _ hc2 (by omega), fun z => absurd rfl z⟩
theorem lw_c42 (C : lw_C p s m meth c b L xs cd D cs) {n : Nat} (hn : n + 6 ≤ L) {M : Mm} {bu : Nat} (hc : cpl M) (hb : bl M ≤ bu) (ih : ∀ (M2 : Mm) (bu2 : Nat), cpl M2 → bl M2 ≤ bu2 → lw_W p l e s m below meth c b L cd D cs ad0 1742 (lw_ls L n) [] M2 bu2) : lw_W p l e s m below meth c b L cd D cs ad0 1585 (lw_ls L n) [] M bu := by
  obtain ⟨hx, g1, hX⟩ := S_empty M hc
  refine lw_st C lw_i1585_ok ⟨hx, 0, g1, Nat.zero_le _, en_Ct_mono hX ?_⟩
  rintro _ M1 ⟨a, rfl, hm, bm, g2, g3, hM⟩
  refine ⟨hm, bm, g2, (show bm ≤ bu - 0 by omega), en_Ct_mono hM ?_⟩
  rintro _ M2 ⟨rfl, hc2, hb2⟩
  exact ⟨fun _ => ih M2 _ hc2 (by omega), fun z => absurd rfl z⟩
theorem lw_c43 (C : lw_C p s m meth c b L xs cd D cs) {n : Nat} (hn : n + 6 ≤ L) {M : Mm} {bu : Nat} (hc : cpl M) (hb : bl M ≤ bu) (ih : ∀ (M2 : Mm) (bu2 : Nat), cpl M2 → bl M2 ≤ bu2 → lw_W p l e s m below meth c b L cd D cs ad0 1742 (lw_ls L n) [] M2 bu2) : lw_W p l e s m below meth c b L cd D cs ad0 1598 (lw_ls L n) [] M bu := by
  obtain ⟨hx, g1, hX⟩ := S_takeBest (lw_rg xs (n + 1)) M hc
  refine lw_st C lw_i1598_ok ⟨n + 1, by omega, by omega, hx, 0, g1, Nat.zero_le _, en_Ct_mono hX ?_⟩
  rintro _ M1 ⟨a, rfl, hm, bm, g2, g3, hM⟩
  refine ⟨n + 1, by omega, by omega, hm, bm, g2, (show bm ≤ bu - 0 by omega), en_Ct_mono hM ?_⟩
  rintro _ M2 ⟨rfl, hc2, hb2⟩
  exact ⟨fun _ => ih M2 _ hc2 (by omega), fun z => absurd rfl z⟩
theorem lw_c44 (C : lw_C p s m meth c b L xs cd D cs) {n : Nat} (hn : n + 6 ≤ L) {M : Mm} {bu : Nat} (hc : cpl M) (hb : bl M ≤ bu) (ih : ∀ (M2 : Mm) (bu2 : Nat), cpl M2 → bl M2 ≤ bu2 → lw_W p l e s m below meth c b L cd D cs ad0 1742 (lw_ls L n) [] M2 bu2) : lw_W p l e s m below meth c b L cd D cs ad0 1621 (lw_ls L n) [] M bu := by
  obtain ⟨hx, g1, hX⟩ := S_round M hc
  refine lw_st C lw_i1621_ok ⟨hx, 0, g1, Nat.zero_le _, en_Ct_mono hX ?_⟩
  rintro _ M1 ⟨a, rfl, hm, bm, g2, g3, hM⟩
  refine ⟨hm, bm, g2, (show bm ≤ bu - 0 by omega), en_Ct_mono hM ?_⟩
  rintro _ M2 ⟨rfl, hc2, hb2⟩
  exact ⟨fun _ => ih M2 _ hc2 (by omega), fun z => absurd rfl z⟩
theorem lw_c45 (C : lw_C p s m meth c b L xs cd D cs) {n : Nat} (hn : n + 6 ≤ L) {M : Mm} {bu : Nat} (hc : cpl M) (hb : bl M ≤ bu) (ih : ∀ (M2 : Mm) (bu2 : Nat), cpl M2 → bl M2 ≤ bu2 → lw_W p l e s m below meth c b L cd D cs ad0 1742 (lw_ls L n) [] M2 bu2) : lw_W p l e s m below meth c b L cd D cs ad0 1634 (lw_ls L n) [] M bu := by
  obtain ⟨hx, g1, hX⟩ := S_rounds (lw_rg xs (n + 1)) M hc
  refine lw_st C lw_i1634_ok ⟨n + 1, by omega, by omega, hx, 0, g1, Nat.zero_le _, en_Ct_mono hX ?_⟩
  rintro _ M1 ⟨a, rfl, hm, bm, g2, g3, hM⟩
  refine ⟨n + 1, by omega, by omega, hm, bm, g2, (show bm ≤ bu - 0 by omega), en_Ct_mono hM ?_⟩
  rintro _ M2 ⟨rfl, hc2, hb2⟩
  exact ⟨fun _ => ih M2 _ hc2 (by omega), fun z => absurd rfl z⟩
theorem lw_c46 (C : lw_C p s m meth c b L xs cd D cs) {n : Nat} (hn : n + 6 ≤ L) {M : Mm} {bu : Nat} (hc : cpl M) (hb : bl M ≤ bu) (ih : ∀ (M2 : Mm) (bu2 : Nat), cpl M2 → bl M2 ≤ bu2 → lw_W p l e s m below meth c b L cd D cs ad0 1742 (lw_ls L n) [] M2 bu2) : lw_W p l e s m below meth c b L cd D cs ad0 1657 (lw_ls L n) [] M bu := by
  obtain ⟨hx, g1, hX⟩ := S_again M hc
  refine lw_st C lw_i1657_ok ⟨hx, 0, g1, Nat.zero_le _, en_Ct_mono hX ?_⟩
  rintro _ M1 ⟨a, rfl, hm, bm, g2, g3, hM⟩
  refine ⟨hm, bm, g2, (show bm ≤ bu - 0 by omega), en_Ct_mono hM ?_⟩
  rintro _ M2 ⟨rfl, hc2, hb2⟩
  exact ⟨fun _ => ih M2 _ hc2 (by omega), fun z => absurd rfl z⟩
theorem lw_c47 (C : lw_C p s m meth c b L xs cd D cs) {n : Nat} (hn : n + 6 ≤ L) {M : Mm} {bu : Nat} (hc : cpl M) (hb : bl M ≤ bu) (ih : ∀ (M2 : Mm) (bu2 : Nat), cpl M2 → bl M2 ≤ bu2 → lw_W p l e s m below meth c b L cd D cs ad0 1742 (lw_ls L n) [] M2 bu2) : lw_W p l e s m below meth c b L cd D cs ad0 1670 (lw_ls L n) [] M bu := by
  obtain ⟨hx, g1, hX⟩ := S_seed (lw_rg xs (n + 1)) M hc
  refine lw_st C lw_i1670_ok ⟨n + 1, by omega, by omega, hx, 0, g1, Nat.zero_le _, en_Ct_mono hX ?_⟩
  rintro _ M1 ⟨a, rfl, hm, bm, g2, g3, hM⟩
  refine ⟨n + 1, by omega, by omega, hm, bm, g2, (show bm ≤ bu - 0 by omega), en_Ct_mono hM ?_⟩
  rintro _ M2 ⟨rfl, hc2, hb2⟩
  exact ⟨fun _ => ih M2 _ hc2 (by omega), fun z => absurd rfl z⟩
theorem lw_c48 (C : lw_C p s m meth c b L xs cd D cs) {n : Nat} (hn : n + 6 ≤ L) {M : Mm} {bu : Nat} (hc : cpl M) (hb : bl M ≤ bu) (ih : ∀ (M2 : Mm) (bu2 : Nat), cpl M2 → bl M2 ≤ bu2 → lw_W p l e s m below meth c b L cd D cs ad0 1742 (lw_ls L n) [] M2 bu2) : lw_W p l e s m below meth c b L cd D cs ad0 1693 (lw_ls L n) [] M bu := by
  obtain ⟨hx, g1, hX⟩ := S_image imageC_is M hc
  refine lw_st C lw_i1693_ok ⟨hx, 0, g1, Nat.zero_le _, en_Ct_mono hX ?_⟩
  rintro _ M1 ⟨a, rfl, hm, bm, g2, g3, hM⟩
  refine ⟨hm, bm, g2, (show bm ≤ bu - 0 by omega), en_Ct_mono hM ?_⟩
  rintro _ M2 ⟨rfl, hc2, hb2⟩
  exact ⟨fun _ => ih M2 _ hc2 (by omega), fun z => absurd rfl z⟩
theorem lw_c49 (C : lw_C p s m meth c b L xs cd D cs) {n : Nat} (hn : n + 6 ≤ L) {M : Mm} {bu : Nat} (hc : cpl M) (hb : bl M ≤ bu) (ih : ∀ (M2 : Mm) (bu2 : Nat), cpl M2 → bl M2 ≤ bu2 → lw_W p l e s m below meth c b L cd D cs ad0 1742 (lw_ls L n) [] M2 bu2) : lw_W p l e s m below meth c b L cd D cs ad0 1706 (lw_ls L n) [] M bu := by
  obtain ⟨hx, g1, hX⟩ := S_back M hc
  refine lw_st C lw_i1706_ok ⟨hx, 0, g1, Nat.zero_le _, en_Ct_mono hX ?_⟩
  rintro _ M1 ⟨a, rfl, hm, bm, g2, g3, hM⟩
  refine ⟨hm, bm, g2, (show bm ≤ bu - 0 by omega), en_Ct_mono hM ?_⟩
  rintro _ M2 ⟨rfl, hc2, hb2⟩
  exact ⟨fun _ => ih M2 _ hc2 (by omega), fun z => absurd rfl z⟩
theorem lw_c50 (C : lw_C p s m meth c b L xs cd D cs) {n : Nat} (hn : n + 6 ≤ L) {M : Mm} {bu : Nat} (hc : cpl M) (hb : bl M ≤ bu) (ih : ∀ (M2 : Mm) (bu2 : Nat), cpl M2 → bl M2 ≤ bu2 → lw_W p l e s m below meth c b L cd D cs ad0 1742 (lw_ls L n) [] M2 bu2) : lw_W p l e s m below meth c b L cd D cs ad0 1719 (lw_ls L n) [] M bu := by
  obtain ⟨hx, g1, hX⟩ := S_status (lw_rg xs (n + 1)) M hc
  refine lw_st C lw_i1719_ok ⟨n + 1, by omega, by omega, hx, 0, g1, Nat.zero_le _, en_Ct_mono hX ?_⟩
  rintro _ M1 ⟨a, rfl, hm, bm, g2, g3, hM⟩
  refine ⟨n + 1, by omega, by omega, hm, bm, g2, (show bm ≤ bu - 0 by omega), en_Ct_mono hM ?_⟩
  rintro _ M2 ⟨rfl, hc2, hb2⟩
  exact ⟨fun _ => ih M2 _ hc2 (by omega), fun z => absurd rfl z⟩
theorem lw_loop (C : lw_C p s m meth c b L xs cd D cs) (hL : L ≤ 3072) : ∀ (k n : Nat) (M : Mm) (bu : Nat), L < n + 6 + 6 * k → n ≤ L + 6 → cpl M → bl M ≤ bu → lw_W p l e s m below meth c b L cd D cs ad0 18 (lw_ls L n) [] M bu := by
  intro k
  induction k with
  | zero =>
    intro n M bu h1 h2 hc hb
    have r1 : en_wr ((n : Nat) : Int) = n := en_wr_of ⟨by omega, by omega⟩
    have r2 : en_wr (((L : Nat) : Int) - 6) = L - 6 := en_wr_of ⟨by omega, by omega⟩
    refine lw_st C lw_i18_ok ⟨fun _ => lw_st C lw_i1748_ok ⟨Or.inr rfl, rfl⟩, fun q => absurd ?_ q⟩
    show en_wr (((L : Nat) : Int) - 6) < en_wr ((n : Nat) : Int)
    omega
  | succ k ihk =>
    intro n M bu h1 h2 hc hb
    have r1 : en_wr ((n : Nat) : Int) = n := en_wr_of ⟨by omega, by omega⟩
    have r2 : en_wr (((L : Nat) : Int) - 6) = L - 6 := en_wr_of ⟨by omega, by omega⟩
    refine lw_st C lw_i18_ok ⟨fun _ => lw_st C lw_i1748_ok ⟨Or.inr rfl, rfl⟩, fun q => ?_⟩
    have q : ¬ en_wr (((L : Nat) : Int) - 6) < en_wr ((n : Nat) : Int) := q
    have hn : n + 6 ≤ L := by omega
    have tail : ∀ (M2 : Mm) (bu2 : Nat), cpl M2 → bl M2 ≤ bu2 → lw_W p l e s m below meth c b L cd D cs ad0 1742 (lw_ls L n) [] M2 bu2 := fun M2 bu2 hc2 hb2 => lw_st C lw_i1742_ok (ihk (n + 6) M2 bu2 (by omega) (by omega) hc2 hb2)
    refine ⟨n, rfl, by omega, ?_⟩
    refine ⟨fun _ => lw_c0 C hn hc hb tail, fun _ => ?_⟩
    refine ⟨fun _ => lw_c1 C hn hc hb tail, fun _ => ?_⟩
    refine ⟨fun _ => lw_c2 C hn hc hb tail, fun _ => ?_⟩
    refine ⟨fun _ => lw_c3 C hn hc hb tail, fun _ => ?_⟩
    refine ⟨fun _ => lw_c4 C hn hc hb tail, fun _ => ?_⟩
    refine ⟨fun _ => lw_c5 C hn hc hb tail, fun _ => ?_⟩
    refine ⟨fun _ => lw_c6 C hn hc hb tail, fun _ => ?_⟩
    refine ⟨fun _ => lw_c7 C hn hc hb tail, fun _ => ?_⟩
    refine ⟨fun _ => lw_c8 C hn hc hb tail, fun _ => ?_⟩
    refine ⟨fun _ => lw_c9 C hn hc hb tail, fun _ => ?_⟩
    refine ⟨fun _ => lw_c10 C hn hc hb tail, fun _ => ?_⟩
    refine ⟨fun _ => lw_c11 C hn hc hb tail, fun _ => ?_⟩
    refine ⟨fun _ => lw_c12 C hn hc hb tail, fun _ => ?_⟩
    refine ⟨fun _ => lw_c13 C hn hc hb tail, fun _ => ?_⟩
    refine ⟨fun _ => lw_c14 C hn hc hb tail, fun _ => ?_⟩
    refine ⟨fun _ => lw_c15 C hn hc hb tail, fun _ => ?_⟩
    refine ⟨fun _ => lw_c16 C hn hc hb tail, fun _ => ?_⟩
    refine ⟨fun _ => lw_c17 C hn hc hb tail, fun _ => ?_⟩
    refine ⟨fun _ => lw_c18 C hn hc hb tail, fun _ => ?_⟩
    refine ⟨fun _ => lw_c19 C hn hc hb tail, fun _ => ?_⟩
    refine ⟨fun _ => lw_c20 C hn hc hb tail, fun _ => ?_⟩
    refine ⟨fun _ => lw_c21 C hn hc hb tail, fun _ => ?_⟩
    refine ⟨fun _ => lw_c22 C hn hc hb tail, fun _ => ?_⟩
    refine ⟨fun _ => lw_c23 C hn hc hb tail, fun _ => ?_⟩
    refine ⟨fun _ => lw_c24 C hn hc hb tail, fun _ => ?_⟩
    refine ⟨fun _ => lw_c25 C hn hc hb tail, fun _ => ?_⟩
    refine ⟨fun _ => lw_c26 C hn hc hb tail, fun _ => ?_⟩
    refine ⟨fun _ => lw_c27 C hn hc hb tail, fun _ => ?_⟩
    refine ⟨fun _ => lw_c28 C hn hc hb tail, fun _ => ?_⟩
    refine ⟨fun _ => lw_c29 C hn hc hb tail, fun _ => ?_⟩
    refine ⟨fun _ => lw_c30 C hn hc hb tail, fun _ => ?_⟩
    refine ⟨fun _ => lw_c31 C hn hc hb tail, fun _ => ?_⟩
    refine ⟨fun _ => lw_c32 C hn hc hb tail, fun _ => ?_⟩
    refine ⟨fun _ => lw_c33 C hn hc hb tail, fun _ => ?_⟩
    refine ⟨fun _ => lw_c34 C hn hc hb tail, fun _ => ?_⟩
    refine ⟨fun _ => lw_c35 C hn hc hb tail, fun _ => ?_⟩
    refine ⟨fun _ => lw_c36 C hn hc hb tail, fun _ => ?_⟩
    refine ⟨fun _ => lw_c37 C hn hc hb tail, fun _ => ?_⟩
    refine ⟨fun _ => lw_c38 C hn hc hb tail, fun _ => ?_⟩
    refine ⟨fun _ => lw_c39 C hn hc hb tail, fun _ => ?_⟩
    refine ⟨fun _ => lw_c40 C hn hc hb tail, fun _ => ?_⟩
    refine ⟨fun _ => lw_c41 C hn hc hb tail, fun _ => ?_⟩
    refine ⟨fun _ => lw_c42 C hn hc hb tail, fun _ => ?_⟩
    refine ⟨fun _ => lw_c43 C hn hc hb tail, fun _ => ?_⟩
    refine ⟨fun _ => lw_c44 C hn hc hb tail, fun _ => ?_⟩
    refine ⟨fun _ => lw_c45 C hn hc hb tail, fun _ => ?_⟩
    refine ⟨fun _ => lw_c46 C hn hc hb tail, fun _ => ?_⟩
    refine ⟨fun _ => lw_c47 C hn hc hb tail, fun _ => ?_⟩
    refine ⟨fun _ => lw_c48 C hn hc hb tail, fun _ => ?_⟩
    refine ⟨fun _ => lw_c49 C hn hc hb tail, fun _ => ?_⟩
    refine ⟨fun _ => lw_c50 C hn hc hb tail, fun _ => ?_⟩
    exact tail M bu hc hb
end LC
