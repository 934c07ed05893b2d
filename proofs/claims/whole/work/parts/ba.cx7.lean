/-- the places that a cell names -/
def en_of (a : Nat) : List Nat :=
  match en_lay.getD a (0, 0) with
  | (1, c) => (en_ft.getD c []).filterMap (fun t => match t with | (2, _, _, off) => some (a + off) | (3, _, _, off) => (match Nat.beq a 84 with | true => some (a + off) | false => none) | _ => none)
  | (2, _) => []
  | (3, _) => []
  | (4, _) => []
  | (_, n) => (List.range (en_ra.getD n (0, 0, 0, 0, 0, 0)).1).map (fun j => a + (en_ra.getD n (0, 0, 0, 0, 0, 0)).2.2.2.1 + (en_ra.getD n (0, 0, 0, 0, 0, 0)).2.2.2.2.1 * j)
theorem en_cell_sh {ad ad' : Nat → Nat} {cs : Nat → ClassId} {M M' : Mm} {a a' : Nat} (hl : en_lay.getD a' (0, 0) = en_lay.getD a (0, 0)) (h1 : M'.1 a' = M.1 a) (h2 : M'.2 a' = M.2 a) (n1 : Nat.beq a' 84 = Nat.beq a 84) (ho : ∀ d d', d ∈ en_of a → d + a' = d' + a → ad' d' = ad d) : en_cell ad' cs M' a' = en_cell ad cs M a := by
  unfold en_of at ho
  unfold en_cell
  rw [hl]
  generalize en_lay.getD a (0, 0) = q at ho ⊢
  obtain ⟨k, c⟩ := q
  match k, ho with
  | 1, ho =>
    show (Sum.inr (c, en_fs ad' M' a' c) : va_E) = .inr (c, en_fs ad M a c)
    refine congrArg (fun z => (Sum.inr (c, z) : va_E)) ?_
    unfold en_fs
    apply List.map_congr_left
    rintro ⟨⟨t0, t1, t2, off⟩, i⟩ hq
    have hm : (t0, t1, t2, off) ∈ en_ft.getD c [] := by
      obtain ⟨n, hn⟩ := List.getElem?_of_mem hq
      rw [List.getElem?_zipIdx] at hn
      obtain ⟨y, hy, hy2⟩ := Option.map_eq_some_iff.mp hn
      have : y = (t0, t1, t2, off) := congrArg Prod.fst hy2
      rw [← this]
      exact List.mem_of_getElem? hy
    match t0, hm with
    | 0, _ =>
      show Value.int (Int32.ofInt (M'.1 a' i)) = Value.int (Int32.ofInt (M.1 a i))
      rw [h1]
    | 1, _ =>
      show Value.int (Int32.ofInt (M'.1 a' i)) = Value.int (Int32.ofInt (M.1 a i))
      rw [h1]
    | 2, hm =>
      show Value.ref (ad' (a' + off)) = Value.ref (ad (a + off))
      rw [ho (a + off) (a' + off) (List.mem_filterMap.mpr ⟨_, hm, rfl⟩) (by omega)]
    | 3, hm =>
      show (match Nat.beq a' 84 with | true => if M'.1 a' i = 0 then Value.null else .ref (ad' (a' + off)) | false => .null) = (match Nat.beq a 84 with | true => if M.1 a i = 0 then Value.null else .ref (ad (a + off)) | false => .null)
      rw [n1, h1]
      cases hz : Nat.beq a 84 with
      | false => rfl
      | true =>
        have e := ho (a + off) (a' + off) (List.mem_filterMap.mpr ⟨_, hm, by simp only [hz]⟩) (by omega)
        simp only [e]
    | t0 + 4, _ =>
      show Value.int (Int32.ofInt (M'.1 a' i)) = Value.int (Int32.ofInt (M.1 a i))
      rw [h1]
  | 2, _ =>
    show (Sum.inl (cs 0, c, .inl (fun j => Int32.ofInt (M'.1 a' j))) : va_E) = .inl (cs 0, c, .inl (fun j => Int32.ofInt (M.1 a j)))
    rw [h1]
  | 3, _ =>
    show (Sum.inl (cs 1, c, .inl (fun j => Int32.ofInt (M'.1 a' j))) : va_E) = .inl (cs 1, c, .inl (fun j => Int32.ofInt (M.1 a j)))
    rw [h1]
  | 4, _ =>
    show (Sum.inl (cs 2, c, .inr (.inl (fun j => Int64.ofInt (M'.2 a' j)))) : va_E) = .inl (cs 2, c, .inr (.inl (fun j => Int64.ofInt (M.2 a j))))
    rw [h2]
  | 0, ho =>
    refine congrArg (fun z => (Sum.inl (_, _, .inr (.inr (.inr (.inr z)))) : va_E)) (funext fun j => ?_)
    by_cases hj : j < (en_ra.getD c (0, 0, 0, 0, 0, 0)).1
    · rw [if_pos hj, if_pos hj, ho _ (a' + (en_ra.getD c (0, 0, 0, 0, 0, 0)).2.2.2.1 + (en_ra.getD c (0, 0, 0, 0, 0, 0)).2.2.2.2.1 * j) (List.mem_map.mpr ⟨j, List.mem_range.mpr hj, rfl⟩) (by omega)]
    · rw [if_neg hj, if_neg hj]
  | k + 5, ho =>
    refine congrArg (fun z => (Sum.inl (_, _, .inr (.inr (.inr (.inr z)))) : va_E)) (funext fun j => ?_)
    by_cases hj : j < (en_ra.getD c (0, 0, 0, 0, 0, 0)).1
    · rw [if_pos hj, if_pos hj, ho _ (a' + (en_ra.getD c (0, 0, 0, 0, 0, 0)).2.2.2.1 + (en_ra.getD c (0, 0, 0, 0, 0, 0)).2.2.2.2.1 * j) (List.mem_map.mpr ⟨j, List.mem_range.mpr hj, rfl⟩) (by omega)]
    · rw [if_neg hj, if_neg hj]
theorem en_cell_of {ad ad' : Nat → Nat} {cs : Nat → ClassId} {M M' : Mm} {a : Nat} (h1 : M'.1 a = M.1 a) (h2 : M'.2 a = M.2 a) (ho : ∀ d ∈ en_of a, ad' d = ad d) : en_cell ad' cs M' a = en_cell ad cs M a := en_cell_sh rfl h1 h2 rfl (fun d d' hd e => by
  have : d' = d := by omega
  rw [this]
  exact ho d hd)
theorem cx_emb {cs : Nat → ClassId} {b b' n : Nat} {q Q : Nat → Nat} (hlay : ∀ i, i < n → en_lay.getD (b' + i) (0, 0) = en_lay.getD (b + i) (0, 0)) (hM1 : ∀ i, i < n → cx_M1 (b' + i) = cx_M1 (b + i)) (hb : b + n ≤ 84) (hb' : b' + n ≤ 84) (hof : ∀ i, i < n → ∀ d ∈ en_of (b + i), b ≤ d ∧ d < b + n) (hQ : ∀ i, i < n → Q (b' + i) = q i) : cx_blk cs b n q = ((List.range n).map (b' + ·)).map (fun a => (Q a, en_cell (fun a => Q (a - 0)) cs cx_M (0 + a))) := by
  unfold cx_blk
  rw [List.map_map]
  apply List.map_congr_left
  intro i hi
  have hi := List.mem_range.mp hi
  have nb : ∀ x : Nat, x < 84 → Nat.beq x 84 = false := fun x hx => by
    cases h : Nat.beq x 84 with
    | false => rfl
    | true => exact absurd (Nat.eq_of_beq_eq_true h) (by omega)
  show (q i, en_cell (fun a => q (a - b)) cs cx_M (b + i)) = (Q (b' + i), en_cell (fun a => Q (a - 0)) cs cx_M (0 + (b' + i)))
  rw [hQ i hi, Nat.zero_add]
  refine congrArg (fun z => (q i, z)) (Eq.symm (en_cell_sh (hlay i hi) (hM1 i hi) rfl ((nb _ (by omega)).trans (nb _ (by omega)).symm) ?_))
  intro d d' hd e
  obtain ⟨z1, z2⟩ := hof i hi d hd
  show Q (d' - 0) = q (d - b)
  have e2 : d' = b' + (d - b) := by omega
  rw [Nat.sub_zero, e2]
  exact hQ (d - b) (by omega)
def cx_Q (h0 : Nat) (q1 q17 q33 q49 q52 q61 : Nat → Nat) (q65 q66 q67 : Nat) (s0 s1 s2 s3 s4 s5 s6 s7 : Nat → Nat) : Nat → Nat := fun a => if a < 1 then h0 else if a < 17 then q1 (a - 1) else if a < 33 then q17 (a - 17) else if a < 49 then q33 (a - 33) else if a < 52 then q49 (a - 49) else if a < 61 then q52 (a - 52) else if a < 65 then q61 (a - 61) else if a < 66 then q65 else if a < 67 then q66 else if a < 68 then q67 else if a < 70 then s0 (a - 68) else if a < 72 then s1 (a - 70) else if a < 74 then s2 (a - 72) else if a < 76 then s3 (a - 74) else if a < 78 then s4 (a - 76) else if a < 80 then s5 (a - 78) else if a < 82 then s6 (a - 80) else s7 (a - 82)
theorem cx_m17 : ∀ i, i < 16 → cx_M1 (17 + i) = cx_M1 (1 + i) := by
  intro i hi
  rcases (show i = 0 ∨ i = 1 ∨ i = 2 ∨ i = 3 ∨ i = 4 ∨ i = 5 ∨ i = 6 ∨ i = 7 ∨ i = 8 ∨ i = 9 ∨ i = 10 ∨ i = 11 ∨ i = 12 ∨ i = 13 ∨ i = 14 ∨ i = 15 by omega) with h | h | h | h | h | h | h | h | h | h | h | h | h | h | h | h
  all_goals (subst h; funext j; rfl)
theorem cx_m33 : ∀ i, i < 16 → cx_M1 (33 + i) = cx_M1 (1 + i) := by
  intro i hi
  rcases (show i = 0 ∨ i = 1 ∨ i = 2 ∨ i = 3 ∨ i = 4 ∨ i = 5 ∨ i = 6 ∨ i = 7 ∨ i = 8 ∨ i = 9 ∨ i = 10 ∨ i = 11 ∨ i = 12 ∨ i = 13 ∨ i = 14 ∨ i = 15 by omega) with h | h | h | h | h | h | h | h | h | h | h | h | h | h | h | h
  all_goals (subst h; funext j; rfl)
theorem cx_m70 : ∀ i, i < 2 → cx_M1 (70 + i) = cx_M1 (68 + i) := by
  intro i hi
  rcases (show i = 0 ∨ i = 1 by omega) with h | h
  all_goals (subst h; funext j; rfl)
theorem cx_m72 : ∀ i, i < 2 → cx_M1 (72 + i) = cx_M1 (68 + i) := by
  intro i hi
  rcases (show i = 0 ∨ i = 1 by omega) with h | h
  all_goals (subst h; funext j; rfl)
theorem cx_m74 : ∀ i, i < 2 → cx_M1 (74 + i) = cx_M1 (68 + i) := by
  intro i hi
  rcases (show i = 0 ∨ i = 1 by omega) with h | h
  all_goals (subst h; funext j; rfl)
theorem cx_m76 : ∀ i, i < 2 → cx_M1 (76 + i) = cx_M1 (68 + i) := by
  intro i hi
  rcases (show i = 0 ∨ i = 1 by omega) with h | h
  all_goals (subst h; funext j; rfl)
theorem cx_m78 : ∀ i, i < 2 → cx_M1 (78 + i) = cx_M1 (68 + i) := by
  intro i hi
  rcases (show i = 0 ∨ i = 1 by omega) with h | h
  all_goals (subst h; funext j; rfl)
theorem cx_m80 : ∀ i, i < 2 → cx_M1 (80 + i) = cx_M1 (68 + i) := by
  intro i hi
  rcases (show i = 0 ∨ i = 1 by omega) with h | h
  all_goals (subst h; funext j; rfl)
theorem cx_m82 : ∀ i, i < 2 → cx_M1 (82 + i) = cx_M1 (68 + i) := by
  intro i hi
  rcases (show i = 0 ∨ i = 1 by omega) with h | h
  all_goals (subst h; funext j; rfl)
theorem cx_app3 {α : Type} (a : List α) (x y z : α) : ((a ++ [x]) ++ [y]) ++ [z] = a ++ (x :: [y, z]) := by simp
def cx_f5 : List Value := [.null, .null, .null, .null, .null, .null, .null, .null, .null, .int (Int32.ofInt 0)]
theorem cx_t5 : ∀ k, k < 10 → parseFieldDescriptor (TX5 k).2.2.1 = some (cx_ty TX5 k) := by decide +kernel
theorem cx_d5 : ∀ k, k < 10 → defaultValue (cx_ty TX5 k) = vp_V cx_f5 k := by decide +kernel
set_option maxHeartbeats 4000000 in
set_option maxRecDepth 100000 in
theorem cx_C5 (l : Launch) : cx_Ct l yX5_init cX5_init 2 5 0 84 3 64 83 1499 cx_f5 cx_E5 := by
  intro D cs h0 sz
  refine Met.ofW (cc := cX5_init) (maxL := 2) (ret := none) (by decide) rfl ?_
  intro p e s m args below meth c s₁ B hml hv
  obtain ⟨rfl, hsz, hP, hK, hD0, hEx⟩ := hv
  have hts := atoms_spec (ws := Cond.code yX5_init cX5_init 2 none :: en_gw) B.pre
  have hlocks := B.notSynchronized
  have hr := B.returns
  have hin : meth.name = "<init>" := (name_of_methodNamed B.named B.method).1
  subst hsz
  have hD := hD0.self (sz := s.heap.size)
  have X : cx_F p s m _ c cX5_init RX5 2 (va_A [(h0, .inr (5, cx_f5))] s.heap.size) D cs := ⟨B.exec, B.bytes, hml, findClass_of_methodNamed B.named, fun w hw => hts w (List.mem_cons_of_mem _ hw), hK, fun q h => Or.inr h⟩
  have hl := lv_entry ([.ref h0]) (n := 2) (Nat.le_of_ble_eq_true rfl)
  rw [lg_entry_eq]
  generalize (lg_sl ([.ref h0]) ++ List.replicate (2 - (lg_sl ([.ref h0])).length) Slot.unset).toArray = ls at hl ⊢
  have hl : lv_has ls 2 [(0, .ref h0)] := hl
  have hl0 := lv_at hl 0 rfl
  obtain ⟨hEE, ⟨hN1, hN2, hN0, hN3, hN4⟩, hAO⟩ := hEx
  refine (show cx_W p l e _ s m _ below meth c _ D _ ls h0 5 0 0 0 [.null, .null, .null, .null, .null, .null, .null, .null, .null, .int (Int32.ofInt 0)] [] [] from ?_) s.heap [] hP hD va_S.rf
  refine cx_aload (pc' := 1) X rfl hl0 (by decide +kernel) ?_
  refine cx_obj (i := 1) (pc' := 4) X rfl hl.1 cw_20 cw_21 cw_22 (Nat.le_of_ble_eq_true rfl) (Nat.le_of_ble_eq_true rfl) (by decide +kernel) ?_
  refine cx_aload (pc' := 5) X rfl hl0 (by decide +kernel) ?_
  refine cx_make (i := 7) (i2 := 9) (cj := 1) (r := (RX1, TX1, 15)) (b := 1) (n := 16) (mc := 15) (ms := 208) (fs0 := cx_f1) (ex := cx_EE) (pc' := 12) (cells' := 16) (slots' := 223) X ⟨⟨rfl, cw_23, cw_24, cw_2⟩, ⟨cx_t1, cx_d1⟩, cx_C1 l, ⟨cw_27, cw_26, cw_2, rfl, by decide, by decide, by decide +kernel⟩, ⟨(Nat.le_of_ble_eq_true rfl), (Nat.le_of_ble_eq_true rfl)⟩, ⟨fun _ _ _ _ _ h => cx_EE_same rfl rfl h, fun _ _ hW hAB hq => cx_EE_move hEE hq hAB hW⟩, by decide +kernel, by decide +kernel, by decide +kernel⟩ rfl rfl rfl hl.1 hN1 (Nat.le_of_ble_eq_true rfl) (Nat.le_of_ble_eq_true rfl) (Nat.le_of_ble_eq_true rfl) (fun q1 => ?_)
  refine cx_putF (k := 0) (i := 10) (ty := (.object "TownRiverBeast$Evening")) (r := (RX5, TX5, 10)) (fs' := [.ref (q1 0), .null, .null, .null, .null, .null, .null, .null, .null, .int (Int32.ofInt 0)]) (pc' := 15) X hin rfl rfl (by decide) cw_268 rfl rfl (by decide +kernel) rfl rfl (Nat.le_of_ble_eq_true rfl) rfl (by decide +kernel) ?_
  refine cx_aload (pc' := 16) X rfl hl0 (by decide +kernel) ?_
  refine cx_make (i := 7) (i2 := 9) (cj := 1) (r := (RX1, TX1, 15)) (b := 1) (n := 16) (mc := 15) (ms := 208) (fs0 := cx_f1) (ex := cx_EE) (pc' := 23) (cells' := 32) (slots' := 446) X ⟨⟨rfl, cw_23, cw_24, cw_2⟩, ⟨cx_t1, cx_d1⟩, cx_C1 l, ⟨cw_27, cw_26, cw_2, rfl, by decide, by decide, by decide +kernel⟩, ⟨(Nat.le_of_ble_eq_true rfl), (Nat.le_of_ble_eq_true rfl)⟩, ⟨fun _ _ _ _ _ h => cx_EE_same rfl rfl h, fun _ _ hW hAB hq => cx_EE_move hEE hq hAB hW⟩, by decide +kernel, by decide +kernel, by decide +kernel⟩ rfl rfl rfl hl.1 hN1 (Nat.le_of_ble_eq_true rfl) (Nat.le_of_ble_eq_true rfl) (Nat.le_of_ble_eq_true rfl) (fun q17 => ?_)
  refine cx_putF (k := 1) (i := 16) (ty := (.object "TownRiverBeast$Evening")) (r := (RX5, TX5, 10)) (fs' := [.ref (q1 0), .ref (q17 0), .null, .null, .null, .null, .null, .null, .null, .int (Int32.ofInt 0)]) (pc' := 26) X hin rfl rfl (by decide) cw_269 rfl rfl (by decide +kernel) rfl rfl (Nat.le_of_ble_eq_true rfl) rfl (by decide +kernel) ?_
  refine cx_aload (pc' := 27) X rfl hl0 (by decide +kernel) ?_
  refine cx_make (i := 7) (i2 := 9) (cj := 1) (r := (RX1, TX1, 15)) (b := 1) (n := 16) (mc := 15) (ms := 208) (fs0 := cx_f1) (ex := cx_EE) (pc' := 34) (cells' := 48) (slots' := 669) X ⟨⟨rfl, cw_23, cw_24, cw_2⟩, ⟨cx_t1, cx_d1⟩, cx_C1 l, ⟨cw_27, cw_26, cw_2, rfl, by decide, by decide, by decide +kernel⟩, ⟨(Nat.le_of_ble_eq_true rfl), (Nat.le_of_ble_eq_true rfl)⟩, ⟨fun _ _ _ _ _ h => cx_EE_same rfl rfl h, fun _ _ hW hAB hq => cx_EE_move hEE hq hAB hW⟩, by decide +kernel, by decide +kernel, by decide +kernel⟩ rfl rfl rfl hl.1 hN1 (Nat.le_of_ble_eq_true rfl) (Nat.le_of_ble_eq_true rfl) (Nat.le_of_ble_eq_true rfl) (fun q33 => ?_)
  refine cx_putF (k := 2) (i := 19) (ty := (.object "TownRiverBeast$Evening")) (r := (RX5, TX5, 10)) (fs' := [.ref (q1 0), .ref (q17 0), .ref (q33 0), .null, .null, .null, .null, .null, .null, .int (Int32.ofInt 0)]) (pc' := 37) X hin rfl rfl (by decide) cw_270 rfl rfl (by decide +kernel) rfl rfl (Nat.le_of_ble_eq_true rfl) rfl (by decide +kernel) ?_
  refine cx_aload (pc' := 38) X rfl hl0 (by decide +kernel) ?_
  refine cx_make (i := 22) (i2 := 24) (cj := 2) (r := (RX2, TX2, 4)) (b := 49) (n := 3) (mc := 2) (ms := 8) (fs0 := cx_f2) (ex := (fun _ _ => True)) (pc' := 45) (cells' := 51) (slots' := 681) X ⟨⟨rfl, cw_120, cw_121, cw_3⟩, ⟨cx_t2, cx_d2⟩, cx_C2 l, ⟨cw_124, cw_123, cw_3, rfl, by decide, by decide, by decide +kernel⟩, ⟨(Nat.le_of_ble_eq_true rfl), (Nat.le_of_ble_eq_true rfl)⟩, ⟨fun _ _ _ _ _ h => h, fun _ _ _ _ _ => trivial⟩, by decide +kernel, by decide +kernel, by decide +kernel⟩ rfl rfl rfl hl.1 hN2 (Nat.le_of_ble_eq_true rfl) (Nat.le_of_ble_eq_true rfl) (Nat.le_of_ble_eq_true rfl) (fun q49 => ?_)
  refine cx_putF (k := 3) (i := 25) (ty := (.object "TownRiverBeast$Outcome")) (r := (RX5, TX5, 10)) (fs' := [.ref (q1 0), .ref (q17 0), .ref (q33 0), .ref (q49 0), .null, .null, .null, .null, .null, .int (Int32.ofInt 0)]) (pc' := 48) X hin rfl rfl (by decide) cw_271 rfl rfl (by decide +kernel) rfl rfl (Nat.le_of_ble_eq_true rfl) rfl (by decide +kernel) ?_
  refine cx_aload (pc' := 49) X rfl hl0 (by decide +kernel) ?_
  refine cx_make (i := 29) (i2 := 31) (cj := 0) (r := (RX0, TX0, 18)) (b := 52) (n := 9) (mc := 8) (ms := 161) (fs0 := cx_f0) (ex := (fun _ _ => True)) (pc' := 56) (cells' := 60) (slots' := 860) X ⟨⟨rfl, cw_142, cw_143, cw_4⟩, ⟨cx_t0, cx_d0⟩, cx_C0 l, ⟨cw_146, cw_145, cw_4, rfl, by decide, by decide, by decide +kernel⟩, ⟨(Nat.le_of_ble_eq_true rfl), (Nat.le_of_ble_eq_true rfl)⟩, ⟨fun _ _ _ _ _ h => h, fun _ _ _ _ _ => trivial⟩, by decide +kernel, by decide +kernel, by decide +kernel⟩ rfl rfl rfl hl.1 hN0 (Nat.le_of_ble_eq_true rfl) (Nat.le_of_ble_eq_true rfl) (Nat.le_of_ble_eq_true rfl) (fun q52 => ?_)
  refine cx_putF (k := 4) (i := 32) (ty := (.object "TownRiverBeast$BestSheet")) (r := (RX5, TX5, 10)) (fs' := [.ref (q1 0), .ref (q17 0), .ref (q33 0), .ref (q49 0), .ref (q52 0), .null, .null, .null, .null, .int (Int32.ofInt 0)]) (pc' := 59) X hin rfl rfl (by decide) cw_272 rfl rfl (by decide +kernel) rfl rfl (Nat.le_of_ble_eq_true rfl) rfl (by decide +kernel) ?_
  refine cx_aload (pc' := 60) X rfl hl0 (by decide +kernel) ?_
  refine cx_make (i := 36) (i2 := 38) (cj := 3) (r := (RX3, TX3, 9)) (b := 61) (n := 4) (mc := 3) (ms := 260) (fs0 := cx_f3) (ex := (fun _ _ => True)) (pc' := 67) (cells' := 64) (slots' := 1129) X ⟨⟨rfl, cw_206, cw_207, cw_5⟩, ⟨cx_t3, cx_d3⟩, cx_C3 l, ⟨cw_210, cw_209, cw_5, rfl, by decide, by decide, by decide +kernel⟩, ⟨(Nat.le_of_ble_eq_true rfl), (Nat.le_of_ble_eq_true rfl)⟩, ⟨fun _ _ _ _ _ h => h, fun _ _ _ _ _ => trivial⟩, by decide +kernel, by decide +kernel, by decide +kernel⟩ rfl rfl rfl hl.1 hN3 (Nat.le_of_ble_eq_true rfl) (Nat.le_of_ble_eq_true rfl) (Nat.le_of_ble_eq_true rfl) (fun q61 => ?_)
  refine cx_putF (k := 5) (i := 39) (ty := (.object "TownRiverBeast$Reader")) (r := (RX5, TX5, 10)) (fs' := [.ref (q1 0), .ref (q17 0), .ref (q33 0), .ref (q49 0), .ref (q52 0), .ref (q61 0), .null, .null, .null, .int (Int32.ofInt 0)]) (pc' := 70) X hin rfl rfl (by decide) cw_273 rfl rfl (by decide +kernel) rfl rfl (Nat.le_of_ble_eq_true rfl) rfl (by decide +kernel) ?_
  refine cx_aload (pc' := 71) X rfl hl0 (by decide +kernel) ?_
  refine cx_bipush (n := 8) (pc' := 73) X rfl (by decide +kernel) (by decide +kernel) ?_
  refine cx_newq (i := 43) (t := 3) (N := 8) (pc' := 76) (cells' := 65) (slots' := 1137) X rfl rfl rfl cw_244 hAO rfl (by decide +kernel) (by decide +kernel) (by decide +kernel) (Nat.le_of_ble_eq_true rfl) (Nat.le_of_ble_eq_true rfl) (by decide +kernel) (fun q65 => ?_)
  refine cx_putF (k := 6) (i := 45) (ty := (.array (.object "TownRiverBeast$Shelf"))) (r := (RX5, TX5, 10)) (fs' := [.ref (q1 0), .ref (q17 0), .ref (q33 0), .ref (q49 0), .ref (q52 0), .ref (q61 0), .ref q65, .null, .null, .int (Int32.ofInt 0)]) (pc' := 79) X hin rfl rfl (by decide) cw_274 rfl rfl (by decide +kernel) rfl rfl (Nat.le_of_ble_eq_true rfl) rfl (by decide +kernel) ?_
  refine cx_aload (pc' := 80) X rfl hl0 (by decide +kernel) ?_
  refine cx_iconst (n := 5) (pc' := 81) X rfl (by decide +kernel) ?_
  refine cx_newa (atype := .int) (ty := .int) (t := 0) (N := 5) (a0 := (5, .inl (fun j => Int32.ofInt (cx_M.1 66 j)))) (pc' := 83) (cells' := 66) (slots' := 1142) X rfl rfl rfl cw_118 rfl rfl (fun _ h => h) (cx_zi (g := cx_M.1 66) (fun _ => rfl)) (by decide +kernel) (by decide +kernel) (by decide +kernel) (Nat.le_of_ble_eq_true rfl) (Nat.le_of_ble_eq_true rfl) (by decide +kernel) (fun q66 => ?_)
  refine cx_putF (k := 7) (i := 49) (ty := (.array .int)) (r := (RX5, TX5, 10)) (fs' := [.ref (q1 0), .ref (q17 0), .ref (q33 0), .ref (q49 0), .ref (q52 0), .ref (q61 0), .ref q65, .ref q66, .null, .int (Int32.ofInt 0)]) (pc' := 86) X hin rfl rfl (by decide) cw_275 rfl rfl (by decide +kernel) rfl rfl (Nat.le_of_ble_eq_true rfl) rfl (by decide +kernel) ?_
  refine cx_aload (pc' := 87) X rfl hl0 (by decide +kernel) ?_
  refine cx_iconst (n := 5) (pc' := 88) X rfl (by decide +kernel) ?_
  refine cx_newa (atype := .int) (ty := .int) (t := 0) (N := 5) (a0 := (5, .inl (fun j => Int32.ofInt (cx_M.1 67 j)))) (pc' := 90) (cells' := 67) (slots' := 1147) X rfl rfl rfl cw_118 rfl rfl (fun _ h => h) (cx_zi (g := cx_M.1 67) (fun _ => rfl)) (by decide +kernel) (by decide +kernel) (by decide +kernel) (Nat.le_of_ble_eq_true rfl) (Nat.le_of_ble_eq_true rfl) (by decide +kernel) (fun q67 => ?_)
  refine cx_putF (k := 8) (i := 53) (ty := (.array .int)) (r := (RX5, TX5, 10)) (fs' := [.ref (q1 0), .ref (q17 0), .ref (q33 0), .ref (q49 0), .ref (q52 0), .ref (q61 0), .ref q65, .ref q66, .ref q67, .int (Int32.ofInt 0)]) (pc' := 93) X hin rfl rfl (by decide) cw_276 rfl rfl (by decide +kernel) rfl rfl (Nat.le_of_ble_eq_true rfl) rfl (by decide +kernel) ?_
  refine cx_aload (pc' := 94) X rfl hl0 (by decide +kernel) ?_
  refine cx_iconst (n := 0) (pc' := 95) X rfl (by decide +kernel) ?_
  refine cx_put (k := 9) (i := 56) (ty := .boolean) (r := (RX5, TX5, 10)) (fs' := [.ref (q1 0), .ref (q17 0), .ref (q33 0), .ref (q49 0), .ref (q52 0), .ref (q61 0), .ref q65, .ref q66, .ref q67, .int (Int32.ofInt 0)]) (pc' := 98) X rfl rfl (by decide) cw_277 rfl (by decide +kernel) rfl rfl (Nat.le_of_ble_eq_true rfl) rfl (by decide +kernel) ?_
  refine cx_iconst (n := 0) (pc' := 99) X rfl (by decide +kernel) ?_
  refine cx_istore (pc' := 100) X rfl hl (by decide +kernel) (fun ls hl => ?_)
  refine cx_ws (cx_app3 _ _ _ _) ?_
  refine cx_shelf (cells' := 69) (slots' := 1191) X 0 rfl rfl hl (by decide +kernel) (by decide +kernel) (by decide +kernel) (by unfold vp_in; decide +kernel) ⟨⟨(Nat.le_of_ble_eq_true rfl), (Nat.le_of_ble_eq_true rfl)⟩, (Nat.le_of_ble_eq_true rfl), (Nat.le_of_ble_eq_true rfl)⟩ hN4 rfl (fun s0 ls hl => ?_)
  refine cx_shelf (cells' := 71) (slots' := 1235) X 1 rfl rfl hl (by decide +kernel) (by decide +kernel) (by decide +kernel) (by unfold vp_in; decide +kernel) ⟨⟨(Nat.le_of_ble_eq_true rfl), (Nat.le_of_ble_eq_true rfl)⟩, (Nat.le_of_ble_eq_true rfl), (Nat.le_of_ble_eq_true rfl)⟩ hN4 rfl (fun s1 ls hl => ?_)
  refine cx_shelf (cells' := 73) (slots' := 1279) X 2 rfl rfl hl (by decide +kernel) (by decide +kernel) (by decide +kernel) (by unfold vp_in; decide +kernel) ⟨⟨(Nat.le_of_ble_eq_true rfl), (Nat.le_of_ble_eq_true rfl)⟩, (Nat.le_of_ble_eq_true rfl), (Nat.le_of_ble_eq_true rfl)⟩ hN4 rfl (fun s2 ls hl => ?_)
  refine cx_shelf (cells' := 75) (slots' := 1323) X 3 rfl rfl hl (by decide +kernel) (by decide +kernel) (by decide +kernel) (by unfold vp_in; decide +kernel) ⟨⟨(Nat.le_of_ble_eq_true rfl), (Nat.le_of_ble_eq_true rfl)⟩, (Nat.le_of_ble_eq_true rfl), (Nat.le_of_ble_eq_true rfl)⟩ hN4 rfl (fun s3 ls hl => ?_)
  refine cx_shelf (cells' := 77) (slots' := 1367) X 4 rfl rfl hl (by decide +kernel) (by decide +kernel) (by decide +kernel) (by unfold vp_in; decide +kernel) ⟨⟨(Nat.le_of_ble_eq_true rfl), (Nat.le_of_ble_eq_true rfl)⟩, (Nat.le_of_ble_eq_true rfl), (Nat.le_of_ble_eq_true rfl)⟩ hN4 rfl (fun s4 ls hl => ?_)
  refine cx_shelf (cells' := 79) (slots' := 1411) X 5 rfl rfl hl (by decide +kernel) (by decide +kernel) (by decide +kernel) (by unfold vp_in; decide +kernel) ⟨⟨(Nat.le_of_ble_eq_true rfl), (Nat.le_of_ble_eq_true rfl)⟩, (Nat.le_of_ble_eq_true rfl), (Nat.le_of_ble_eq_true rfl)⟩ hN4 rfl (fun s5 ls hl => ?_)
  refine cx_shelf (cells' := 81) (slots' := 1455) X 6 rfl rfl hl (by decide +kernel) (by decide +kernel) (by decide +kernel) (by unfold vp_in; decide +kernel) ⟨⟨(Nat.le_of_ble_eq_true rfl), (Nat.le_of_ble_eq_true rfl)⟩, (Nat.le_of_ble_eq_true rfl), (Nat.le_of_ble_eq_true rfl)⟩ hN4 rfl (fun s6 ls hl => ?_)
  refine cx_shelf (cells' := 83) (slots' := 1499) X 7 rfl rfl hl (by decide +kernel) (by decide +kernel) (by decide +kernel) (by unfold vp_in; decide +kernel) ⟨⟨(Nat.le_of_ble_eq_true rfl), (Nat.le_of_ble_eq_true rfl)⟩, (Nat.le_of_ble_eq_true rfl), (Nat.le_of_ble_eq_true rfl)⟩ hN4 rfl (fun s7 ls hl => ?_)
  intro H locs hP hD hS
  have hf8 : (va_up (va_up (va_up (va_up (va_up (va_up (va_up (va_up (fun _ => none) 0 (some (s0 0))) 1 (some (s1 0))) 2 (some (s2 0))) 3 (some (s3 0))) 4 (some (s4 0))) 5 (some (s5 0))) 6 (some (s6 0))) 7 (some (s7 0))) = fun j => if j < 8 then some ((cx_Q h0 q1 q17 q33 q49 q52 q61 q65 q66 q67 s0 s1 s2 s3 s4 s5 s6 s7) (0 + 65 + 3 + 2 * j - 0)) else none := by
    funext j
    rcases (show j = 0 ∨ j = 1 ∨ j = 2 ∨ j = 3 ∨ j = 4 ∨ j = 5 ∨ j = 6 ∨ j = 7 ∨ 8 ≤ j by omega) with h | h | h | h | h | h | h | h | h
    all_goals try (subst h; rfl)
    unfold va_up
    rw [if_neg (by omega), if_neg (by omega), if_neg (by omega), if_neg (by omega), if_neg (by omega), if_neg (by omega), if_neg (by omega), if_neg (by omega), if_neg (by omega)]
  rw [hf8] at hP hD
  have e1 : cx_blk cs 1 16 q1 = ((List.range 16).map (1 + ·)).map (fun a => ((cx_Q h0 q1 q17 q33 q49 q52 q61 q65 q66 q67 s0 s1 s2 s3 s4 s5 s6 s7) a, en_cell (fun a => (cx_Q h0 q1 q17 q33 q49 q52 q61 q65 q66 q67 s0 s1 s2 s3 s4 s5 s6 s7) (a - 0)) cs cx_M (0 + a))) := cx_emb (by decide +kernel) (fun _ _ => rfl) (by decide) (by decide) (by decide +kernel) (fun i hi => by rcases (show i = 0 ∨ i = 1 ∨ i = 2 ∨ i = 3 ∨ i = 4 ∨ i = 5 ∨ i = 6 ∨ i = 7 ∨ i = 8 ∨ i = 9 ∨ i = 10 ∨ i = 11 ∨ i = 12 ∨ i = 13 ∨ i = 14 ∨ i = 15 by omega) with rfl | rfl | rfl | rfl | rfl | rfl | rfl | rfl | rfl | rfl | rfl | rfl | rfl | rfl | rfl | rfl <;> rfl)
  have e17 : cx_blk cs 1 16 q17 = ((List.range 16).map (17 + ·)).map (fun a => ((cx_Q h0 q1 q17 q33 q49 q52 q61 q65 q66 q67 s0 s1 s2 s3 s4 s5 s6 s7) a, en_cell (fun a => (cx_Q h0 q1 q17 q33 q49 q52 q61 q65 q66 q67 s0 s1 s2 s3 s4 s5 s6 s7) (a - 0)) cs cx_M (0 + a))) := cx_emb (by decide +kernel) cx_m17 (by decide) (by decide) (by decide +kernel) (fun i hi => by rcases (show i = 0 ∨ i = 1 ∨ i = 2 ∨ i = 3 ∨ i = 4 ∨ i = 5 ∨ i = 6 ∨ i = 7 ∨ i = 8 ∨ i = 9 ∨ i = 10 ∨ i = 11 ∨ i = 12 ∨ i = 13 ∨ i = 14 ∨ i = 15 by omega) with rfl | rfl | rfl | rfl | rfl | rfl | rfl | rfl | rfl | rfl | rfl | rfl | rfl | rfl | rfl | rfl <;> rfl)
  have e33 : cx_blk cs 1 16 q33 = ((List.range 16).map (33 + ·)).map (fun a => ((cx_Q h0 q1 q17 q33 q49 q52 q61 q65 q66 q67 s0 s1 s2 s3 s4 s5 s6 s7) a, en_cell (fun a => (cx_Q h0 q1 q17 q33 q49 q52 q61 q65 q66 q67 s0 s1 s2 s3 s4 s5 s6 s7) (a - 0)) cs cx_M (0 + a))) := cx_emb (by decide +kernel) cx_m33 (by decide) (by decide) (by decide +kernel) (fun i hi => by rcases (show i = 0 ∨ i = 1 ∨ i = 2 ∨ i = 3 ∨ i = 4 ∨ i = 5 ∨ i = 6 ∨ i = 7 ∨ i = 8 ∨ i = 9 ∨ i = 10 ∨ i = 11 ∨ i = 12 ∨ i = 13 ∨ i = 14 ∨ i = 15 by omega) with rfl | rfl | rfl | rfl | rfl | rfl | rfl | rfl | rfl | rfl | rfl | rfl | rfl | rfl | rfl | rfl <;> rfl)
  have e49 : cx_blk cs 49 3 q49 = ((List.range 3).map (49 + ·)).map (fun a => ((cx_Q h0 q1 q17 q33 q49 q52 q61 q65 q66 q67 s0 s1 s2 s3 s4 s5 s6 s7) a, en_cell (fun a => (cx_Q h0 q1 q17 q33 q49 q52 q61 q65 q66 q67 s0 s1 s2 s3 s4 s5 s6 s7) (a - 0)) cs cx_M (0 + a))) := cx_emb (by decide +kernel) (fun _ _ => rfl) (by decide) (by decide) (by decide +kernel) (fun i hi => by rcases (show i = 0 ∨ i = 1 ∨ i = 2 by omega) with rfl | rfl | rfl <;> rfl)
  have e52 : cx_blk cs 52 9 q52 = ((List.range 9).map (52 + ·)).map (fun a => ((cx_Q h0 q1 q17 q33 q49 q52 q61 q65 q66 q67 s0 s1 s2 s3 s4 s5 s6 s7) a, en_cell (fun a => (cx_Q h0 q1 q17 q33 q49 q52 q61 q65 q66 q67 s0 s1 s2 s3 s4 s5 s6 s7) (a - 0)) cs cx_M (0 + a))) := cx_emb (by decide +kernel) (fun _ _ => rfl) (by decide) (by decide) (by decide +kernel) (fun i hi => by rcases (show i = 0 ∨ i = 1 ∨ i = 2 ∨ i = 3 ∨ i = 4 ∨ i = 5 ∨ i = 6 ∨ i = 7 ∨ i = 8 by omega) with rfl | rfl | rfl | rfl | rfl | rfl | rfl | rfl | rfl <;> rfl)
  have e61 : cx_blk cs 61 4 q61 = ((List.range 4).map (61 + ·)).map (fun a => ((cx_Q h0 q1 q17 q33 q49 q52 q61 q65 q66 q67 s0 s1 s2 s3 s4 s5 s6 s7) a, en_cell (fun a => (cx_Q h0 q1 q17 q33 q49 q52 q61 q65 q66 q67 s0 s1 s2 s3 s4 s5 s6 s7) (a - 0)) cs cx_M (0 + a))) := cx_emb (by decide +kernel) (fun _ _ => rfl) (by decide) (by decide) (by decide +kernel) (fun i hi => by rcases (show i = 0 ∨ i = 1 ∨ i = 2 ∨ i = 3 by omega) with rfl | rfl | rfl | rfl <;> rfl)
  have t0 : cx_blk cs 68 2 s0 = ((List.range 2).map (68 + ·)).map (fun a => ((cx_Q h0 q1 q17 q33 q49 q52 q61 q65 q66 q67 s0 s1 s2 s3 s4 s5 s6 s7) a, en_cell (fun a => (cx_Q h0 q1 q17 q33 q49 q52 q61 q65 q66 q67 s0 s1 s2 s3 s4 s5 s6 s7) (a - 0)) cs cx_M (0 + a))) := cx_emb (by decide +kernel) (fun _ _ => rfl) (by decide) (by decide) (by decide +kernel) (fun i hi => by rcases (show i = 0 ∨ i = 1 by omega) with rfl | rfl <;> rfl)
  have t1 : cx_blk cs 68 2 s1 = ((List.range 2).map (70 + ·)).map (fun a => ((cx_Q h0 q1 q17 q33 q49 q52 q61 q65 q66 q67 s0 s1 s2 s3 s4 s5 s6 s7) a, en_cell (fun a => (cx_Q h0 q1 q17 q33 q49 q52 q61 q65 q66 q67 s0 s1 s2 s3 s4 s5 s6 s7) (a - 0)) cs cx_M (0 + a))) := cx_emb (by decide +kernel) cx_m70 (by decide) (by decide) (by decide +kernel) (fun i hi => by rcases (show i = 0 ∨ i = 1 by omega) with rfl | rfl <;> rfl)
  have t2 : cx_blk cs 68 2 s2 = ((List.range 2).map (72 + ·)).map (fun a => ((cx_Q h0 q1 q17 q33 q49 q52 q61 q65 q66 q67 s0 s1 s2 s3 s4 s5 s6 s7) a, en_cell (fun a => (cx_Q h0 q1 q17 q33 q49 q52 q61 q65 q66 q67 s0 s1 s2 s3 s4 s5 s6 s7) (a - 0)) cs cx_M (0 + a))) := cx_emb (by decide +kernel) cx_m72 (by decide) (by decide) (by decide +kernel) (fun i hi => by rcases (show i = 0 ∨ i = 1 by omega) with rfl | rfl <;> rfl)
  have t3 : cx_blk cs 68 2 s3 = ((List.range 2).map (74 + ·)).map (fun a => ((cx_Q h0 q1 q17 q33 q49 q52 q61 q65 q66 q67 s0 s1 s2 s3 s4 s5 s6 s7) a, en_cell (fun a => (cx_Q h0 q1 q17 q33 q49 q52 q61 q65 q66 q67 s0 s1 s2 s3 s4 s5 s6 s7) (a - 0)) cs cx_M (0 + a))) := cx_emb (by decide +kernel) cx_m74 (by decide) (by decide) (by decide +kernel) (fun i hi => by rcases (show i = 0 ∨ i = 1 by omega) with rfl | rfl <;> rfl)
  have t4 : cx_blk cs 68 2 s4 = ((List.range 2).map (76 + ·)).map (fun a => ((cx_Q h0 q1 q17 q33 q49 q52 q61 q65 q66 q67 s0 s1 s2 s3 s4 s5 s6 s7) a, en_cell (fun a => (cx_Q h0 q1 q17 q33 q49 q52 q61 q65 q66 q67 s0 s1 s2 s3 s4 s5 s6 s7) (a - 0)) cs cx_M (0 + a))) := cx_emb (by decide +kernel) cx_m76 (by decide) (by decide) (by decide +kernel) (fun i hi => by rcases (show i = 0 ∨ i = 1 by omega) with rfl | rfl <;> rfl)
  have t5 : cx_blk cs 68 2 s5 = ((List.range 2).map (78 + ·)).map (fun a => ((cx_Q h0 q1 q17 q33 q49 q52 q61 q65 q66 q67 s0 s1 s2 s3 s4 s5 s6 s7) a, en_cell (fun a => (cx_Q h0 q1 q17 q33 q49 q52 q61 q65 q66 q67 s0 s1 s2 s3 s4 s5 s6 s7) (a - 0)) cs cx_M (0 + a))) := cx_emb (by decide +kernel) cx_m78 (by decide) (by decide) (by decide +kernel) (fun i hi => by rcases (show i = 0 ∨ i = 1 by omega) with rfl | rfl <;> rfl)
  have t6 : cx_blk cs 68 2 s6 = ((List.range 2).map (80 + ·)).map (fun a => ((cx_Q h0 q1 q17 q33 q49 q52 q61 q65 q66 q67 s0 s1 s2 s3 s4 s5 s6 s7) a, en_cell (fun a => (cx_Q h0 q1 q17 q33 q49 q52 q61 q65 q66 q67 s0 s1 s2 s3 s4 s5 s6 s7) (a - 0)) cs cx_M (0 + a))) := cx_emb (by decide +kernel) cx_m80 (by decide) (by decide) (by decide +kernel) (fun i hi => by rcases (show i = 0 ∨ i = 1 by omega) with rfl | rfl <;> rfl)
  have t7 : cx_blk cs 68 2 s7 = ((List.range 2).map (82 + ·)).map (fun a => ((cx_Q h0 q1 q17 q33 q49 q52 q61 q65 q66 q67 s0 s1 s2 s3 s4 s5 s6 s7) a, en_cell (fun a => (cx_Q h0 q1 q17 q33 q49 q52 q61 q65 q66 q67 s0 s1 s2 s3 s4 s5 s6 s7) (a - 0)) cs cx_M (0 + a))) := cx_emb (by decide +kernel) cx_m82 (by decide) (by decide) (by decide +kernel) (fun i hi => by rcases (show i = 0 ∨ i = 1 by omega) with rfl | rfl <;> rfl)
  have er : List.range 84 = 0 :: ((List.range 16).map (1 + ·) ++ ((List.range 16).map (17 + ·) ++ ((List.range 16).map (33 + ·) ++ ((List.range 3).map (49 + ·) ++ ((List.range 9).map (52 + ·) ++ ((List.range 4).map (61 + ·) ++ (65 :: 66 :: 67 :: ((List.range 2).map (68 + ·) ++ ((List.range 2).map (70 + ·) ++ ((List.range 2).map (72 + ·) ++ ((List.range 2).map (74 + ·) ++ ((List.range 2).map (76 + ·) ++ ((List.range 2).map (78 + ·) ++ ((List.range 2).map (80 + ·) ++ ((List.range 2).map (82 + ·)))))))))))))))) := by decide +kernel
  have hT : cx_blk cs 0 84 (cx_Q h0 q1 q17 q33 q49 q52 q61 q65 q66 q67 s0 s1 s2 s3 s4 s5 s6 s7) = (List.range 84).map (fun a => ((cx_Q h0 q1 q17 q33 q49 q52 q61 q65 q66 q67 s0 s1 s2 s3 s4 s5 s6 s7) a, en_cell (fun a => (cx_Q h0 q1 q17 q33 q49 q52 q61 q65 q66 q67 s0 s1 s2 s3 s4 s5 s6 s7) (a - 0)) cs cx_M (0 + a))) := rfl
  rw [er] at hT
  simp only [List.map_cons, List.map_append] at hT
  rw [← e1, ← e17, ← e33, ← e49, ← e52, ← e61, ← t0, ← t1, ← t2, ← t3, ← t4, ← t5, ← t6, ← t7] at hT
  have hP2 : va_P D vwCl (cx_blk cs 0 84 (cx_Q h0 q1 q17 q33 q49 q52 q61 q65 q66 q67 s0 s1 s2 s3 s4 s5 s6 s7)) H := by
    rw [hT]
    simp only [List.append_assoc, List.cons_append, List.nil_append] at hP ⊢
    exact hP
  have hD2 : va_D (va_A [(h0, .inr (5, cx_f5))] s.heap.size) (cx_blk cs 0 84 (cx_Q h0 q1 q17 q33 q49 q52 q61 q65 q66 q67 s0 s1 s2 s3 s4 s5 s6 s7)) := by
    rw [hT]
    simp only [List.append_assoc, List.cons_append, List.nil_append] at hD ⊢
    exact hD
  refine lv_iload_n X.1 X.2.1 (k := 1) (by decide +kernel) rfl (lv_at hl 0 rfl) ?_
  refine lv_bipush (n := 8) (v := Int32.ofInt 8) X.1 X.2.1 (by decide +kernel) (by decide +kernel) ?_
  refine lv_icmp_ge (off := 22) (tgt := 125) X.1 X.2.1 (by decide +kernel) (by decide) (fun _ => ?_) (fun h => absurd (by decide +kernel) h)
  exact W.vret B.exec B.bytes hr (fun t ht hW => ⟨⟨(cx_Q h0 q1 q17 q33 q49 q52 q61 q65 q66 q67 s0 s1 s2 s3 s4 s5 s6 s7), rfl, rfl, by rw [ht]; exact hP2, hD2⟩, hS.F ht⟩) hS.2.2 (by decide +kernel)
