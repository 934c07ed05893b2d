/-! a new block of the reference: fresh, image -/
def mkB (M : Mm) (b k : Nat) : Mm := (fun a => if b ≤ a ∧ a < b + 37 then cx_M.1 (a - b + 84) else if a = 84 then (fun i => if i = k then 1 else M.1 84 i) else M.1 a, fun a => if b ≤ a ∧ a < b + 37 then cx_M.2 (a - b + 84) else M.2 a)
def adB (ad q : Nat → Nat) (b : Nat) : Nat → Nat := fun a => if b ≤ a ∧ a < b + 37 then q (a - b) else ad a
theorem map_P {D : va_G} {cl : List vw_C} {H : Heap} {P P' : List Nat} {F : Nat → Nat × va_E} (h : va_P D cl (P.map F) H) (hs : ∀ a ∈ P', a ∈ P) : va_P D cl (P'.map F) H := by
  intro k q hk
  rw [List.getElem?_map] at hk
  obtain ⟨a, ha, rfl⟩ := Option.map_eq_some_iff.mp hk
  obtain ⟨i, hi⟩ := List.getElem?_of_mem (hs a (List.mem_of_getElem? ha))
  exact h i _ (by rw [List.getElem?_map, hi]; rfl)
theorem map_D {A : Nat → Prop} {P P' : List Nat} {F : Nat → Nat × va_E} (h : va_D A (P.map F)) (hs : ∀ a ∈ P', a ∈ P) (hn : P'.Nodup) : va_D A (P'.map F) := by
  refine ⟨fun i j p q hi hj hpq => ?_, fun k q hk => ?_⟩
  · rw [List.getElem?_map] at hi hj
    obtain ⟨a, ha, rfl⟩ := Option.map_eq_some_iff.mp hi
    obtain ⟨b, hb, rfl⟩ := Option.map_eq_some_iff.mp hj
    obtain ⟨i', hi'⟩ := List.getElem?_of_mem (hs a (List.mem_of_getElem? ha))
    obtain ⟨j', hj'⟩ := List.getElem?_of_mem (hs b (List.mem_of_getElem? hb))
    have e := h.1 i' j' _ _ (by rw [List.getElem?_map, hi']; rfl) (by rw [List.getElem?_map, hj']; rfl) hpq
    subst e
    have e2 : a = b := Option.some.inj (hi'.symm.trans hj')
    subst e2
    have h1 := List.getElem?_eq_some_iff.mp ha
    have h2 := List.getElem?_eq_some_iff.mp hb
    have hn := List.pairwise_iff_getElem.mp hn
    rcases Nat.lt_trichotomy i j with z | z | z
    · exact absurd (h1.2.trans h2.2.symm) (hn i j h1.1 h2.1 z)
    · exact z
    · exact absurd (h2.2.trans h1.2.symm) (hn j i h2.1 h1.1 z)
  · rw [List.getElem?_map] at hk
    obtain ⟨a, ha, rfl⟩ := Option.map_eq_some_iff.mp hk
    obtain ⟨i, hi⟩ := List.getElem?_of_mem (hs a (List.mem_of_getElem? ha))
    exact h.2 i _ (by rw [List.getElem?_map, hi]; rfl)
theorem map_set {P : List Nat} {F G : Nat → Nat × va_E} {i a : Nat} (hi : P[i]? = some a) (hn : P.Nodup) (hG : ∀ b, b ∈ P → b ≠ a → G b = F b) : (P.map F).set i (G a) = P.map G := by
  apply List.ext_getElem?
  intro k
  by_cases hk : k = i
  · subst hk
    have hl := (List.getElem?_eq_some_iff.mp hi).1
    rw [List.getElem?_set_self (by rw [List.length_map]; exact hl), List.getElem?_map, hi]
    rfl
  · rw [List.getElem?_set_ne (Ne.symm hk), List.getElem?_map, List.getElem?_map]
    cases hb : P[k]? with
    | none => rfl
    | some b =>
      have hne : b ≠ a := by
        intro e
        subst e
        have h1 := List.getElem?_eq_some_iff.mp hb
        have h2 := List.getElem?_eq_some_iff.mp hi
        have hn := List.pairwise_iff_getElem.mp hn
        rcases Nat.lt_trichotomy k i with z | z | z
        · exact hn k i h1.1 h2.1 z (h1.2.trans h2.2.symm)
        · exact hk z
        · exact hn i k h2.1 h1.1 z (h2.2.trans h1.2.symm)
      simp only [Option.map_some]
      rw [hG b (List.mem_of_getElem? hb) hne]
theorem of_121 : ∀ a, a < 195 → a ≠ 84 → (a < 121 ∨ 158 ≤ a) → ∀ d ∈ en_of a, ¬ (121 ≤ d ∧ d < 121 + 37) := by decide +kernel
theorem of_158 : ∀ a, a < 195 → a ≠ 84 → (a < 158 ∨ 195 ≤ a) → ∀ d ∈ en_of a, ¬ (158 ≤ d ∧ d < 158 + 37) := by decide +kernel
set_option maxHeartbeats 4000000 in
set_option maxRecDepth 100000 in
theorem blk_121 (ad q : Nat → Nat) (cs : Nat → ClassId) (M : Mm) (i : Nat) (hi : i < 37) : en_cell (adB ad q 121) cs (mkB M 121 25) (121 + i) = en_cell (fun a => q (a - 84)) cs cx_M (84 + i) := by
  rcases (show i = 0 ∨ i = 1 ∨ i = 2 ∨ i = 3 ∨ i = 4 ∨ i = 5 ∨ i = 6 ∨ i = 7 ∨ i = 8 ∨ i = 9 ∨ i = 10 ∨ i = 11 ∨ i = 12 ∨ i = 13 ∨ i = 14 ∨ i = 15 ∨ i = 16 ∨ i = 17 ∨ i = 18 ∨ i = 19 ∨ i = 20 ∨ i = 21 ∨ i = 22 ∨ i = 23 ∨ i = 24 ∨ i = 25 ∨ i = 26 ∨ i = 27 ∨ i = 28 ∨ i = 29 ∨ i = 30 ∨ i = 31 ∨ i = 32 ∨ i = 33 ∨ i = 34 ∨ i = 35 ∨ i = 36 by omega) with h | h | h | h | h | h | h | h | h | h | h | h | h | h | h | h | h | h | h | h | h | h | h | h | h | h | h | h | h | h | h | h | h | h | h | h | h
  all_goals subst h
  all_goals (first | rfl | skip)
  · show (Sum.inl (cs 5, 8, .inr (.inr (.inr (.inr (fun j => if j < 8 then some (adB ad q 121 (121 + 4 + 1 + 1 * j)) else none)))))  : va_E) = .inl (cs 5, 8, .inr (.inr (.inr (.inr (fun j => if j < 8 then some (q (84 + 4 + 1 + 1 * j - 84)) else none)))))
    refine congrArg (fun z => (Sum.inl (cs 5, 8, .inr (.inr (.inr (.inr z)))) : va_E)) (funext fun j => ?_)
    by_cases hj : j < 8
    · rw [if_pos hj, if_pos hj]
      unfold adB
      rw [if_pos (by omega), show 121 + 4 + 1 + 1 * j - 121 = 84 + 4 + 1 + 1 * j - 84 by omega]
    · rw [if_neg hj, if_neg hj]
  · show (Sum.inl (cs 4, 4, .inr (.inr (.inr (.inr (fun j => if j < 4 then some (adB ad q 121 (121 + 24 + 1 + 1 * j)) else none)))))  : va_E) = .inl (cs 4, 4, .inr (.inr (.inr (.inr (fun j => if j < 4 then some (q (84 + 24 + 1 + 1 * j - 84)) else none)))))
    refine congrArg (fun z => (Sum.inl (cs 4, 4, .inr (.inr (.inr (.inr z)))) : va_E)) (funext fun j => ?_)
    by_cases hj : j < 4
    · rw [if_pos hj, if_pos hj]
      unfold adB
      rw [if_pos (by omega), show 121 + 24 + 1 + 1 * j - 121 = 84 + 24 + 1 + 1 * j - 84 by omega]
    · rw [if_neg hj, if_neg hj]
set_option maxRecDepth 100000 in
theorem c84_121 (ad q : Nat → Nat) (cs : Nat → ClassId) (M : Mm) : en_cell (adB ad q 121) cs (mkB M 121 25) 84 = .inr (6, (en_fs ad M 84 6).set 25 (.ref (q 0))) := rfl
set_option maxHeartbeats 4000000 in
set_option maxRecDepth 100000 in
theorem blk_158 (ad q : Nat → Nat) (cs : Nat → ClassId) (M : Mm) (i : Nat) (hi : i < 37) : en_cell (adB ad q 158) cs (mkB M 158 24) (158 + i) = en_cell (fun a => q (a - 84)) cs cx_M (84 + i) := by
  rcases (show i = 0 ∨ i = 1 ∨ i = 2 ∨ i = 3 ∨ i = 4 ∨ i = 5 ∨ i = 6 ∨ i = 7 ∨ i = 8 ∨ i = 9 ∨ i = 10 ∨ i = 11 ∨ i = 12 ∨ i = 13 ∨ i = 14 ∨ i = 15 ∨ i = 16 ∨ i = 17 ∨ i = 18 ∨ i = 19 ∨ i = 20 ∨ i = 21 ∨ i = 22 ∨ i = 23 ∨ i = 24 ∨ i = 25 ∨ i = 26 ∨ i = 27 ∨ i = 28 ∨ i = 29 ∨ i = 30 ∨ i = 31 ∨ i = 32 ∨ i = 33 ∨ i = 34 ∨ i = 35 ∨ i = 36 by omega) with h | h | h | h | h | h | h | h | h | h | h | h | h | h | h | h | h | h | h | h | h | h | h | h | h | h | h | h | h | h | h | h | h | h | h | h | h
  all_goals subst h
  all_goals (first | rfl | skip)
  · show (Sum.inl (cs 5, 8, .inr (.inr (.inr (.inr (fun j => if j < 8 then some (adB ad q 158 (158 + 4 + 1 + 1 * j)) else none)))))  : va_E) = .inl (cs 5, 8, .inr (.inr (.inr (.inr (fun j => if j < 8 then some (q (84 + 4 + 1 + 1 * j - 84)) else none)))))
    refine congrArg (fun z => (Sum.inl (cs 5, 8, .inr (.inr (.inr (.inr z)))) : va_E)) (funext fun j => ?_)
    by_cases hj : j < 8
    · rw [if_pos hj, if_pos hj]
      unfold adB
      rw [if_pos (by omega), show 158 + 4 + 1 + 1 * j - 158 = 84 + 4 + 1 + 1 * j - 84 by omega]
    · rw [if_neg hj, if_neg hj]
  · show (Sum.inl (cs 4, 4, .inr (.inr (.inr (.inr (fun j => if j < 4 then some (adB ad q 158 (158 + 24 + 1 + 1 * j)) else none)))))  : va_E) = .inl (cs 4, 4, .inr (.inr (.inr (.inr (fun j => if j < 4 then some (q (84 + 24 + 1 + 1 * j - 84)) else none)))))
    refine congrArg (fun z => (Sum.inl (cs 4, 4, .inr (.inr (.inr (.inr z)))) : va_E)) (funext fun j => ?_)
    by_cases hj : j < 4
    · rw [if_pos hj, if_pos hj]
      unfold adB
      rw [if_pos (by omega), show 158 + 24 + 1 + 1 * j - 158 = 84 + 24 + 1 + 1 * j - 84 by omega]
    · rw [if_neg hj, if_neg hj]
set_option maxRecDepth 100000 in
theorem c84_158 (ad q : Nat → Nat) (cs : Nat → ClassId) (M : Mm) : en_cell (adB ad q 158) cs (mkB M 158 24) 84 = .inr (6, (en_fs ad M 84 6).set 24 (.ref (q 0))) := rfl
set_option maxHeartbeats 4000000 in
theorem nw_237 {bu0 bu : Nat} {post : Option AV → Mm → Prop} {M : Mm} (h0 : M.1 84 25 = 0) (hbu : 1 ≤ bu) (hk : en_AW 8 bu0 237 post 18 [some (.inr (.inr (1, 6, 84)))] [] (mkB M 121 25) (bu - 1)) : en_AW 8 bu0 237 post 7 [some (.inr (.inr (1, 6, 84)))] [] M bu := by
  intro p l e s m args below meth c ad0 cd D cs M0 X hret hlocks hb ad H locs lsA I
  have hAOA : va_AOA .int s ∧ va_AOA .long s := ⟨X.2.2.2.2.2.2.1.2.2.2.2.2 (.arrayOver (.array .int)) (by decide +kernel), X.2.2.2.2.2.2.1.2.2.2.2.2 (.arrayOver (.array .long)) (by decide +kernel)⟩
  have Y : cx_F p s m args c cX6_fresh RX6 1 (va_A (en_wd ad0 cs M0) s.heap.size) D cs := ⟨X.1, X.2.1, X.2.2.1, X.2.2.2.1, X.2.2.2.2.1, X.2.2.2.2.2.1, X.2.2.2.2.2.2.2.2.1⟩
  have hl0 : lsA[0]? = some (.val (.ref (ad 84))) := (I.2.2.2.1 0 _ rfl).1
  refine lv_aload_n (k := 0) Y.1 Y.2.1 (by decide +kernel) rfl hl0 ?_
  refine cx_mk (i := 8) (i2 := 365) (cj := 6) (r := (RX6, TX6, 41)) (b := 84) (n := 37) (fr := 1) (lo := 14) (mc := 36) (ms := 891) (fs0 := cx_f6) (ex := fun _ U => va_AOA .int U ∧ va_AOA .long U) (pc' := 15) Y ⟨⟨rfl, cw_1213, cw_931, cw_7⟩, ⟨cx_t6, cx_d6⟩, cx_C6 l, ⟨cw_934, cw_933, cw_7, rfl, by decide, by decide, by decide +kernel⟩, ⟨Nat.le_of_ble_eq_true rfl, Nat.le_of_ble_eq_true rfl⟩, ⟨fun _ a U g mk h => ⟨h.1.moved (u := U) (U := U.calling g mk a) (Vm.Alike.refl U.vm), h.2.moved (u := U) (U := U.calling g mk a) (Vm.Alike.refl U.vm)⟩, fun _ U hW _ _ => ⟨hAOA.1.moved hW.alike, hAOA.2.moved hW.alike⟩⟩, by decide +kernel, by decide +kernel, by decide +kernel⟩ rfl I.1 (Or.inr cw_1214) (Nat.le_of_ble_eq_true rfl) (by show 37 * (bu0 - bu) + 1 + 36 ≤ 37 * bu0; omega) (by show 932 * (bu0 - bu) + 41 + 891 ≤ 932 * bu0; omega) I.2.2.2.2.2.1 I.2.2.2.2.2.2.1 I.2.2.2.2.2.2.2.1 (fun q H1 locs1 hP1 hD1 hS1 => ?_)
  have h84 : 84 ∈ en_pl M := by
    unfold en_pl
    exact List.mem_append_left _ (by decide)
  obtain ⟨i0, hi0, hw0⟩ := en_wd_at (ad := ad) (cs := cs) h84
  have hlt : i0 < (en_wd ad cs M).length := (List.getElem?_eq_some_iff.mp hw0).1
  have hq0 : (en_wd ad cs M ++ cx_blk cs 84 37 q)[i0]? = some (ad 84, .inr (6, en_fs ad M 84 6)) := by
    rw [List.getElem?_append_left hlt]
    exact hw0
  obtain ⟨ty0, hty, hnm⟩ := en_ty (c := 6) (r := (RX6, TX6, 41)) rfl
  refine va_put (C := RX6) (T := TX6) (N := 41) (ci := 6) (ty := .object "TownRiverBeastModel") Y.1 Y.2.1 Y.2.2.2.2.1 (en_uw (c := 6) (r := (RX6, TX6, 41)) rfl) ty0 hty hnm Y.2.2.2.1 Y.2.2.2.2.2.1 hP1 hD1 hS1 i0 hq0 rfl 25 (by decide) (Y.2.2.2.2.1 _ cw_964) (fun _ z => z) rfl (by decide +kernel) rfl rfl (Nat.le_of_ble_eq_true rfl) (by decide +kernel) (fun H2 locs2 hP2 hD2 hS2 => ?_)
  have hnb : ∀ a, a ∈ en_pl M → a < 195 ∧ (a < 121 ∨ 158 ≤ a) := by
    intro a ha
    have h1 := en_pl_lt ha
    refine ⟨h1, ?_⟩
    unfold en_pl at ha
    rw [if_pos h0] at ha
    simp only [List.mem_append, List.mem_range, List.mem_map, List.not_mem_nil, false_or, or_false] at ha
    rcases ha with ha | ha
    · omega
    · split at ha
      · cases ha
      · obtain ⟨x, hx, rfl⟩ := List.mem_map.mp ha
        omega
  have hset : (en_wd ad cs M ++ cx_blk cs 84 37 q).set i0 (ad 84, .inr (6, (en_fs ad M 84 6).set 25 (.ref (q 0)))) = (en_pl M ++ (List.range 37).map (121 + ·)).map (fun a => (adB ad q 121 a, en_cell (adB ad q 121) cs (mkB M 121 25) a)) := by
    rw [List.set_append_left _ _ hlt, List.map_append]
    congr 1
    · have e := map_set (F := fun a => (ad a, en_cell ad cs M a)) (G := fun a => (adB ad q 121 a, en_cell (adB ad q 121) cs (mkB M 121 25) a)) hi0 (en_nodup M) (fun a ha hne => by
        obtain ⟨z1, z2⟩ := hnb a ha
        have f1 : adB ad q 121 a = ad a := if_neg (by omega)
        have f2 : en_cell (adB ad q 121) cs (mkB M 121 25) a = en_cell ad cs M a := en_cell_of (by show (if _ then _ else _) = _; rw [if_neg (by omega), if_neg hne]) (by show (if _ then _ else _) = _; rw [if_neg (by omega)]) (fun d hd => if_neg (of_121 a z1 hne z2 d hd))
        show (adB ad q 121 a, en_cell (adB ad q 121) cs (mkB M 121 25) a) = (ad a, en_cell ad cs M a)
        rw [f1, f2])
      exact e
    · unfold cx_blk
      rw [List.map_map]
      apply List.map_congr_left
      intro i hi
      have hi := List.mem_range.mp hi
      have f1 : adB ad q 121 (121 + i) = q i := by
        show (if _ then _ else _) = _
        rw [if_pos (by omega), Nat.add_sub_cancel_left]
      show (q i, en_cell (fun a => q (a - 84)) cs cx_M (84 + i)) = (adB ad q 121 (121 + i), en_cell (adB ad q 121) cs (mkB M 121 25) (121 + i))
      rw [f1, blk_121 ad q cs M i hi]
  rw [hset] at hP2 hD2
  have hm25 : (mkB M 121 25).1 84 25 = 1 := rfl
  have hm24 : (mkB M 121 25).1 84 24 = M.1 84 24 := rfl
  have hsub : ∀ a, a ∈ en_pl (mkB M 121 25) → a ∈ en_pl M ++ (List.range 37).map (121 + ·) := by
    intro a ha
    unfold en_pl at ha ⊢
    rw [hm24, hm25] at ha
    rw [if_pos h0]
    rw [if_neg (show ¬ (1 : Int) = 0 by decide)] at ha
    simp only [List.mem_append] at ha ⊢
    rcases ha with ha | ha | ha
    · exact Or.inl (Or.inl ha)
    · exact Or.inr ha
    · exact Or.inl (Or.inr (Or.inr ha))
  have hsub2 : ∀ a, a ∈ en_pl M → a ∈ en_pl (mkB M 121 25) := by
    intro a ha
    unfold en_pl at ha ⊢
    rw [hm24, hm25]
    rw [if_pos h0] at ha
    rw [if_neg (show ¬ (1 : Int) = 0 by decide)]
    simp only [List.mem_append, List.not_mem_nil, false_or, or_false] at ha ⊢
    rcases ha with ha | ha
    · exact Or.inl ha
    · exact Or.inr (Or.inr ha)
  have hW := hk p l e s m args below meth c ad0 cd D cs M0 X hret hlocks (by omega) (adB ad q 121) H2 locs2 lsA ⟨I.1, I.2.1, I.2.2.1, fun i v hv => ?_, fun v hv => (by cases hv), map_P hP2 hsub, map_D hD2 hsub (en_nodup _), hS2, en_agree_trans I.2.2.2.2.2.2.2.2 (fun a ha => ⟨hsub2 a ha, if_neg (by have := (hnb a ha).2; have := (hnb a ha).1; omega)⟩)⟩
  · rw [show 37 * (bu0 - (bu - 1)) = 37 * (bu0 - bu) + 1 + 36 by omega, show 932 * (bu0 - (bu - 1)) = 932 * (bu0 - bu) + 41 + 891 by omega] at hW
    exact hW
  · match i, hv with
    | 0, hv =>
      have ev : v = .inr (.inr (1, 6, 84)) := (Option.some.inj hv).symm
      subst ev
      exact ⟨hl0, Or.inl ⟨by decide, by decide +kernel, hsub2 _ h84⟩⟩
    | i + 1, hv => simp at hv
set_option maxHeartbeats 4000000 in
theorem nw_240 {bu0 bu : Nat} {post : Option AV → Mm → Prop} {M : Mm} (h0 : M.1 84 24 = 0) (hbu : 1 ≤ bu) (hk : en_AW 8 bu0 240 post 18 [some (.inr (.inr (1, 6, 84)))] [] (mkB M 158 24) (bu - 1)) : en_AW 8 bu0 240 post 7 [some (.inr (.inr (1, 6, 84)))] [] M bu := by
  intro p l e s m args below meth c ad0 cd D cs M0 X hret hlocks hb ad H locs lsA I
  have hAOA : va_AOA .int s ∧ va_AOA .long s := ⟨X.2.2.2.2.2.2.1.2.2.2.2.2 (.arrayOver (.array .int)) (by decide +kernel), X.2.2.2.2.2.2.1.2.2.2.2.2 (.arrayOver (.array .long)) (by decide +kernel)⟩
  have Y : cx_F p s m args c cX6_image RX6 1 (va_A (en_wd ad0 cs M0) s.heap.size) D cs := ⟨X.1, X.2.1, X.2.2.1, X.2.2.2.1, X.2.2.2.2.1, X.2.2.2.2.2.1, X.2.2.2.2.2.2.2.2.1⟩
  have hl0 : lsA[0]? = some (.val (.ref (ad 84))) := (I.2.2.2.1 0 _ rfl).1
  refine lv_aload_n (k := 0) Y.1 Y.2.1 (by decide +kernel) rfl hl0 ?_
  refine cx_mk (i := 8) (i2 := 365) (cj := 6) (r := (RX6, TX6, 41)) (b := 84) (n := 37) (fr := 1) (lo := 14) (mc := 36) (ms := 891) (fs0 := cx_f6) (ex := fun _ U => va_AOA .int U ∧ va_AOA .long U) (pc' := 15) Y ⟨⟨rfl, cw_1213, cw_931, cw_7⟩, ⟨cx_t6, cx_d6⟩, cx_C6 l, ⟨cw_934, cw_933, cw_7, rfl, by decide, by decide, by decide +kernel⟩, ⟨Nat.le_of_ble_eq_true rfl, Nat.le_of_ble_eq_true rfl⟩, ⟨fun _ a U g mk h => ⟨h.1.moved (u := U) (U := U.calling g mk a) (Vm.Alike.refl U.vm), h.2.moved (u := U) (U := U.calling g mk a) (Vm.Alike.refl U.vm)⟩, fun _ U hW _ _ => ⟨hAOA.1.moved hW.alike, hAOA.2.moved hW.alike⟩⟩, by decide +kernel, by decide +kernel, by decide +kernel⟩ rfl I.1 (Or.inr cw_1214) (Nat.le_of_ble_eq_true rfl) (by show 37 * (bu0 - bu) + 1 + 36 ≤ 37 * bu0; omega) (by show 932 * (bu0 - bu) + 41 + 891 ≤ 932 * bu0; omega) I.2.2.2.2.2.1 I.2.2.2.2.2.2.1 I.2.2.2.2.2.2.2.1 (fun q H1 locs1 hP1 hD1 hS1 => ?_)
  have h84 : 84 ∈ en_pl M := by
    unfold en_pl
    exact List.mem_append_left _ (by decide)
  obtain ⟨i0, hi0, hw0⟩ := en_wd_at (ad := ad) (cs := cs) h84
  have hlt : i0 < (en_wd ad cs M).length := (List.getElem?_eq_some_iff.mp hw0).1
  have hq0 : (en_wd ad cs M ++ cx_blk cs 84 37 q)[i0]? = some (ad 84, .inr (6, en_fs ad M 84 6)) := by
    rw [List.getElem?_append_left hlt]
    exact hw0
  obtain ⟨ty0, hty, hnm⟩ := en_ty (c := 6) (r := (RX6, TX6, 41)) rfl
  refine va_put (C := RX6) (T := TX6) (N := 41) (ci := 6) (ty := .object "TownRiverBeastModel") Y.1 Y.2.1 Y.2.2.2.2.1 (en_uw (c := 6) (r := (RX6, TX6, 41)) rfl) ty0 hty hnm Y.2.2.2.1 Y.2.2.2.2.2.1 hP1 hD1 hS1 i0 hq0 rfl 24 (by decide) (Y.2.2.2.2.1 _ cw_963) (fun _ z => z) rfl (by decide +kernel) rfl rfl (Nat.le_of_ble_eq_true rfl) (by decide +kernel) (fun H2 locs2 hP2 hD2 hS2 => ?_)
  have hnb : ∀ a, a ∈ en_pl M → a < 195 ∧ (a < 158 ∨ 195 ≤ a) := by
    intro a ha
    have h1 := en_pl_lt ha
    refine ⟨h1, ?_⟩
    unfold en_pl at ha
    rw [if_pos h0] at ha
    simp only [List.mem_append, List.mem_range, List.mem_map, List.not_mem_nil, false_or, or_false] at ha
    rcases ha with ha | ha
    · omega
    · split at ha
      · cases ha
      · obtain ⟨x, hx, rfl⟩ := List.mem_map.mp ha
        have := List.mem_range.mp hx
        omega
  have hset : (en_wd ad cs M ++ cx_blk cs 84 37 q).set i0 (ad 84, .inr (6, (en_fs ad M 84 6).set 24 (.ref (q 0)))) = (en_pl M ++ (List.range 37).map (158 + ·)).map (fun a => (adB ad q 158 a, en_cell (adB ad q 158) cs (mkB M 158 24) a)) := by
    rw [List.set_append_left _ _ hlt, List.map_append]
    congr 1
    · have e := map_set (F := fun a => (ad a, en_cell ad cs M a)) (G := fun a => (adB ad q 158 a, en_cell (adB ad q 158) cs (mkB M 158 24) a)) hi0 (en_nodup M) (fun a ha hne => by
        obtain ⟨z1, z2⟩ := hnb a ha
        have f1 : adB ad q 158 a = ad a := if_neg (by omega)
        have f2 : en_cell (adB ad q 158) cs (mkB M 158 24) a = en_cell ad cs M a := en_cell_of (by show (if _ then _ else _) = _; rw [if_neg (by omega), if_neg hne]) (by show (if _ then _ else _) = _; rw [if_neg (by omega)]) (fun d hd => if_neg (of_158 a z1 hne z2 d hd))
        show (adB ad q 158 a, en_cell (adB ad q 158) cs (mkB M 158 24) a) = (ad a, en_cell ad cs M a)
        rw [f1, f2])
      exact e
    · unfold cx_blk
      rw [List.map_map]
      apply List.map_congr_left
      intro i hi
      have hi := List.mem_range.mp hi
      have f1 : adB ad q 158 (158 + i) = q i := by
        show (if _ then _ else _) = _
        rw [if_pos (by omega), Nat.add_sub_cancel_left]
      show (q i, en_cell (fun a => q (a - 84)) cs cx_M (84 + i)) = (adB ad q 158 (158 + i), en_cell (adB ad q 158) cs (mkB M 158 24) (158 + i))
      rw [f1, blk_158 ad q cs M i hi]
  rw [hset] at hP2 hD2
  have hm24 : (mkB M 158 24).1 84 24 = 1 := rfl
  have hm25 : (mkB M 158 24).1 84 25 = M.1 84 25 := rfl
  have hsub : ∀ a, a ∈ en_pl (mkB M 158 24) → a ∈ en_pl M ++ (List.range 37).map (158 + ·) := by
    intro a ha
    unfold en_pl at ha ⊢
    rw [hm24, hm25] at ha
    rw [if_pos h0]
    rw [if_neg (show ¬ (1 : Int) = 0 by decide)] at ha
    simp only [List.mem_append] at ha ⊢
    rcases ha with ha | ha | ha
    · exact Or.inl (Or.inl ha)
    · exact Or.inl (Or.inr (Or.inl ha))
    · exact Or.inr ha
  have hsub2 : ∀ a, a ∈ en_pl M → a ∈ en_pl (mkB M 158 24) := by
    intro a ha
    unfold en_pl at ha ⊢
    rw [hm24, hm25]
    rw [if_pos h0] at ha
    rw [if_neg (show ¬ (1 : Int) = 0 by decide)]
    simp only [List.mem_append, List.not_mem_nil, false_or, or_false] at ha ⊢
    rcases ha with ha | ha
    · exact Or.inl ha
    · exact Or.inr (Or.inl ha)
  have hW := hk p l e s m args below meth c ad0 cd D cs M0 X hret hlocks (by omega) (adB ad q 158) H2 locs2 lsA ⟨I.1, I.2.1, I.2.2.1, fun i v hv => ?_, fun v hv => (by cases hv), map_P hP2 hsub, map_D hD2 hsub (en_nodup _), hS2, en_agree_trans I.2.2.2.2.2.2.2.2 (fun a ha => ⟨hsub2 a ha, if_neg (by have := (hnb a ha).2; have := (hnb a ha).1; omega)⟩)⟩
  · rw [show 37 * (bu0 - (bu - 1)) = 37 * (bu0 - bu) + 1 + 36 by omega, show 932 * (bu0 - (bu - 1)) = 932 * (bu0 - bu) + 41 + 891 by omega] at hW
    exact hW
  · match i, hv with
    | 0, hv =>
      have ev : v = .inr (.inr (1, 6, 84)) := (Option.some.inj hv).symm
      subst ev
      exact ⟨hl0, Or.inl ⟨by decide, by decide +kernel, hsub2 _ h84⟩⟩
    | i + 1, hv => simp at hv
def i_237_0 : List AI := [(.aload_n 0, 0, 0, 0, []), (.getfield 361, 6, 25, 0, [144]), (.ifnonnull 14, 0, 0, 0, [18]), (.nop, 7, 0, 0, [])]
theorem aw_237_0 {h bu0 bu : Nat} {post : Option AV → Mm → Prop} {ls : AL} {st : List AV} {M : Mm} (hs : en_vc h (some (.object "TownRiverBeastModel")) en_sc0 (en_AW h bu0 237 post) post i_237_0 ls st M bu) : en_AW h bu0 237 post 0 ls st M bu := en_AW_intro (by decide +kernel) rfl (is := i_237_0) (by decide +kernel) hs
theorem mkB_q121 {M : Mm} {X : Ev} (h : evq X (vM (mkB M 121 25) 84)) : evq X (vM M 84) := by
  obtain ⟨h1, h2, h3, h4, h5⟩ := h
  refine ⟨fun i hi => (h1 i hi).trans ?_, fun i hi => (h2 i hi).trans rfl, fun r i z1 z2 hi => (h3 r i z1 z2 hi).trans ?_, fun i hi => ⟨(h4 i hi).1.trans rfl, (h4 i hi).2.trans rfl⟩, fun p i hp hi => (h5 p i hp hi).trans ?_⟩
  · rcases (show i = 0 ∨ i = 1 ∨ i = 2 ∨ i = 3 by omega) with rfl | rfl | rfl | rfl <;> rfl
  · rcases (show r = 2 ∨ r = 3 ∨ r = 4 ∨ r = 5 ∨ r = 6 ∨ r = 7 ∨ r = 8 by omega) with rfl | rfl | rfl | rfl | rfl | rfl | rfl <;> rfl
  · rcases (show p = 0 ∨ p = 1 ∨ p = 2 ∨ p = 3 by omega) with rfl | rfl | rfl | rfl <;> rfl
theorem freshC_is : freshC := by
  intro M
  refine ct_237 rfl ?_
  refine aw_237_0 ⟨rfl, fun h0 => ?_, fun h1 => ?_⟩
  · rw [if_pos h0]
    refine nw_237 h0 (Nat.le_refl _) ?_
    refine aw_237_18 ?_
    refine ⟨rfl, fun z => absurd z (by show ¬ (1 : Int) = 0; decide), fun _ => ?_⟩
    refine ⟨3, 0, by decide, Nat.zero_le _, en_Ct_mono (R_take_121_84 (mkB M 121 25)) ?_⟩
    rintro _ M' ⟨rfl, g1, g2, g3, g4⟩
    have e1 : M'.1 84 = fun i => if i = 25 then 1 else M.1 84 i := by rw [g2 84 (by decide) (by decide)]; rfl
    have n1 : M'.1 84 25 ≠ 0 := by rw [e1]; simp
    have hP : frP M M' := by
      refine ⟨n1, fun i hi => by rw [e1]; simp [hi], fun a h1 h2 => ?_, fun a h2 => ?_, ?_⟩
      · rw [g2 a (by omega) (by omega)]
        show (if _ then _ else _) = _
        rw [if_neg (by omega), if_neg h1]
      · rw [g1]
        show (if _ then _ else _) = _
        rw [if_neg (by omega)]
      · exact mkB_q121 g4
    refine ⟨rfl, fun z => absurd z n1, fun _ => ?_⟩
    exact ⟨rfl, hP⟩
  · rw [if_neg h1]
    refine aw_237_18 ?_
    refine ⟨rfl, fun z => absurd z h1, fun _ => ?_⟩
    refine ⟨3, 0, by decide, Nat.zero_le _, en_Ct_mono (R_take_121_84 M) ?_⟩
    rintro _ M' ⟨rfl, g1, g2, g3, g4⟩
    have e1 : M'.1 84 = M.1 84 := g2 84 (by decide) (by decide)
    have n1 : M'.1 84 25 ≠ 0 := by rw [e1]; exact h1
    have hP : frP M M' := ⟨n1, fun i hi => by rw [e1], fun a h1 h2 => g2 a (by omega) (by omega), fun a h2 => by rw [g1], g4⟩
    refine ⟨rfl, fun z => absurd z n1, fun _ => ?_⟩
    exact ⟨rfl, hP⟩
def i_240_0 : List AI := [(.aload_n 0, 0, 0, 0, []), (.getfield 370, 6, 24, 0, [145]), (.ifnonnull 14, 0, 0, 0, [18]), (.nop, 7, 0, 0, [])]
theorem aw_240_0 {h bu0 bu : Nat} {post : Option AV → Mm → Prop} {ls : AL} {st : List AV} {M : Mm} (hs : en_vc h (some .int) en_sc0 (en_AW h bu0 240 post) post i_240_0 ls st M bu) : en_AW h bu0 240 post 0 ls st M bu := en_AW_intro (by decide +kernel) rfl (is := i_240_0) (by decide +kernel) hs
theorem mkB_q158 {M : Mm} {X : Ev} (h : evq X (vM (mkB M 158 24) 84)) : evq X (vM M 84) := by
  obtain ⟨h1, h2, h3, h4, h5⟩ := h
  refine ⟨fun i hi => (h1 i hi).trans ?_, fun i hi => (h2 i hi).trans rfl, fun r i z1 z2 hi => (h3 r i z1 z2 hi).trans ?_, fun i hi => ⟨(h4 i hi).1.trans rfl, (h4 i hi).2.trans rfl⟩, fun p i hp hi => (h5 p i hp hi).trans ?_⟩
  · rcases (show i = 0 ∨ i = 1 ∨ i = 2 ∨ i = 3 by omega) with rfl | rfl | rfl | rfl <;> rfl
  · rcases (show r = 2 ∨ r = 3 ∨ r = 4 ∨ r = 5 ∨ r = 6 ∨ r = 7 ∨ r = 8 by omega) with rfl | rfl | rfl | rfl | rfl | rfl | rfl <;> rfl
  · rcases (show p = 0 ∨ p = 1 ∨ p = 2 ∨ p = 3 by omega) with rfl | rfl | rfl | rfl <;> rfl
theorem imageC_is : imageC := by
  intro M
  refine ct_240 rfl ?_
  refine aw_240_0 ⟨rfl, fun h0 => ?_, fun h1 => ?_⟩
  · rw [if_pos h0]
    refine nw_240 h0 (Nat.le_refl _) ?_
    refine aw_240_18 ?_
    refine ⟨rfl, fun z => absurd z (by show ¬ (1 : Int) = 0; decide), fun _ => ?_⟩
    refine ⟨3, 0, by decide, Nat.zero_le _, en_Ct_mono (R_take_158_84 (mkB M 158 24)) ?_⟩
    rintro _ M' ⟨rfl, g1, g2, g3, g4⟩
    have e1 : M'.1 84 = fun i => if i = 24 then 1 else M.1 84 i := by rw [g2 84 (by decide) (by decide)]; rfl
    have n1 : M'.1 84 24 ≠ 0 := by rw [e1]; simp
    have hP : imP M M' := by
      refine ⟨n1, fun i hi => by rw [e1]; simp [hi], fun a h1 h2 => ?_, fun a h2 => ?_, ?_⟩
      · rw [g2 a (by omega) (by omega)]
        show (if _ then _ else _) = _
        rw [if_neg (by omega), if_neg h1]
      · rw [g1]
        show (if _ then _ else _) = _
        rw [if_neg (by omega)]
      · exact mkB_q158 g4
    exact ⟨rfl, hP⟩
  · rw [if_neg h1]
    refine aw_240_18 ?_
    refine ⟨rfl, fun z => absurd z h1, fun _ => ?_⟩
    refine ⟨3, 0, by decide, Nat.zero_le _, en_Ct_mono (R_take_158_84 M) ?_⟩
    rintro _ M' ⟨rfl, g1, g2, g3, g4⟩
    have e1 : M'.1 84 = M.1 84 := g2 84 (by decide) (by decide)
    have n1 : M'.1 84 24 ≠ 0 := by rw [e1]; exact h1
    have hP : imP M M' := ⟨n1, fun i hi => by rw [e1], fun a h1 h2 => g2 a (by omega) (by omega), fun a h2 => by rw [g1], g4⟩
    exact ⟨rfl, hP⟩
