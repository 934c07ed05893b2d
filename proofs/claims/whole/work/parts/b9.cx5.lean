/-! the class's constructor -/
theorem cx_EE_same {A : Nat → Prop} {u U : State} (hv : U.vm = u.vm) (hh : U.heap = u.heap) (h : cx_EE A u) : cx_EE A U := by
  have hal : u.vm.Alike U.vm := by rw [hv]; exact Vm.Alike.refl _
  obtain ⟨h1, h2, h3, t, h4, cell, h5⟩ := h
  refine ⟨h1.moved hal, va_Nw.same rfl hv.symm h2, va_Nw.same rfl hv.symm h3, t, ?_, cell, ?_⟩
  · rw [hh]; exact h4.moved hal
  · rw [hh, hv]; exact h5
theorem cx_EE_move {A B : Nat → Prop} {s U : State} (h : cx_EE A s) (hq : ∀ a : Nat, a < s.heap.size → ¬ A a → U.heap[a]? = s.heap[a]?) (hAB : ∀ q, B q → A q) (hW : s.WarmedH U.vm) : cx_EE B U := by
  obtain ⟨h1, h2, h3, t, h4, cell, h5, h6, h7, h8, h9, h10, h11⟩ := h
  refine ⟨h1.moved hW.alike, va_Nw.warmC hW h2, va_Nw.warmF hW h3, t, ((h4.kept hq).narrow hAB).moved hW.alike, cell, ?_, h6, h7, ?_, h9, h10, fun z => h11 (hAB _ z)⟩
  · rw [hq t (Array.getElem?_eq_some_iff.mp h5).1 h11]; exact h5
  · rw [hW.alike.findClass]; exact h8
def cx_E5 (A : Nat → Prop) (U : State) : Prop := cx_EE A U ∧ (va_Nw (.methodLinkNest "TownRiverBeast" 9 yX1_init "TownRiverBeast") U ∧ va_Nw (.methodLinkNest "TownRiverBeast" 24 yX2_init "TownRiverBeast") U ∧ va_Nw (.methodLinkNest "TownRiverBeast" 31 yX0_init "TownRiverBeast") U ∧ va_Nw (.methodLinkNest "TownRiverBeast" 38 yX3_init "TownRiverBeast") U ∧ va_Nw (.methodLinkNest "TownRiverBeast" 60 yX4_init "TownRiverBeast") U) ∧ va_AO "TownRiverBeast$Shelf" U
theorem cx_E5_same {A : Nat → Prop} {u U : State} (hv : U.vm = u.vm) (hh : U.heap = u.heap) (h : cx_E5 A u) : cx_E5 A U := by
  have hal : u.vm.Alike U.vm := by rw [hv]; exact Vm.Alike.refl _
  obtain ⟨h1, ⟨h2, h3, h4, h5, h6⟩, h7⟩ := h
  exact ⟨cx_EE_same hv hh h1, ⟨va_Nw.same rfl hv.symm h2, va_Nw.same rfl hv.symm h3, va_Nw.same rfl hv.symm h4, va_Nw.same rfl hv.symm h5, va_Nw.same rfl hv.symm h6⟩, h7.moved hal⟩
theorem cx_E5_move {A B : Nat → Prop} {s U : State} (h : cx_E5 A s) (hq : ∀ a : Nat, a < s.heap.size → ¬ A a → U.heap[a]? = s.heap[a]?) (hAB : ∀ q, B q → A q) (hW : s.WarmedH U.vm) : cx_E5 B U := by
  obtain ⟨h1, ⟨h2, h3, h4, h5, h6⟩, h7⟩ := h
  exact ⟨cx_EE_move h1 hq hAB hW, ⟨va_Nw.warmM hW h2, va_Nw.warmM hW h3, va_Nw.warmM hW h4, va_Nw.warmM hW h5, va_Nw.warmM hW h6⟩, h7.moved hW.alike⟩
theorem cx_set2 {Wa Wb B : va_W} {x x' y : Nat × va_E} : ((y :: (Wa ++ (x :: Wb))) ++ B).set (Wa.length + 1) x' = y :: (Wa ++ (x' :: (Wb ++ B))) := by
  have e : (y :: (Wa ++ (x :: Wb))) ++ B = y :: (Wa ++ (x :: (Wb ++ B))) := by simp
  rw [e, List.set_cons_succ, List.set_append_right _ _ (Nat.le_refl _), Nat.sub_self]
  rfl
theorem cx_at2 {Wa Wb B : va_W} {x y : Nat × va_E} : ((y :: (Wa ++ (x :: Wb))) ++ B)[Wa.length + 1]? = some x := by
  have e : (y :: (Wa ++ (x :: Wb))) ++ B = y :: (Wa ++ (x :: (Wb ++ B))) := by simp
  rw [e, List.getElem?_cons_succ, List.getElem?_append_right (Nat.le_refl _), Nat.sub_self]
  rfl
theorem cx_at3 {L B : va_W} {x : Nat × va_E} : (L ++ (x :: B))[L.length]? = some x := by
  rw [List.getElem?_append_right (Nat.le_refl _), Nat.sub_self]
  rfl
set_option maxHeartbeats 4000000 in
theorem cx_shelf {p : Program} {l : Launch} {e : Env} {R : Room} {s : State} {m : MethodId} {args : Array Value} {below : List Frame} {meth : Method} {c : Code} {A : Nat → Prop} {D : va_G} {cs : Nat → ClassId} {Q : State → Prop} {lsA : Array Slot} {h0 cells slots cells' slots' : Nat} {fs : List Value} {Wa Wb : va_W} {sa : Nat} {f : Nat → Option Nat} (X : cx_F p s m args c cX5_init RX5 2 A D cs) (n : Nat) (hce : cells + 2 = cells') (hsl : slots + 44 = slots') (hl : lv_has lsA 2 [(1, .int (Int32.ofNat n)), (0, .ref h0)]) (h1 : ¬ Int32.ofInt 8 ≤ Int32.ofNat n) (h2 : (Int32.ofNat n).toNatClampNeg = n) (h3 : Int32.ofNat n + Int32.ofInt 1 = Int32.ofNat (n + 1)) (h4 : vp_in (Int32.ofNat n) 8) (hR : (1 + 1 ≤ R.frames ∧ 8 + (1 + 11) + 14 ≤ R.locals) ∧ cells' ≤ R.cells ∧ slots' ≤ R.slots) (hN : va_Nw (.methodLinkNest "TownRiverBeast" 60 yX4_init "TownRiverBeast") s) (hfs : fs[6]? = some (.ref sa))
    (kk : ∀ (q : Nat → Nat) (lsB : Array Slot), lv_has lsB 2 [(1, .int (Int32.ofNat (n + 1))), (0, .ref h0)] → cx_W p l e R s m args below meth c A D Q lsB h0 5 cells' slots' 100 fs (Wa ++ ((sa, .inl (cs 3, 8, .inr (.inr (.inr (.inr (va_up f n (some (q 0)))))))) :: (Wb ++ cx_blk cs 68 2 q))) []) : cx_W p l e R s m args below meth c A D Q lsA h0 5 cells slots 100 fs (Wa ++ ((sa, .inl (cs 3, 8, .inr (.inr (.inr (.inr f))))) :: Wb)) [] := by
  subst hce
  subst hsl
  intro H locs hP hD hS
  refine lv_iload_n X.1 X.2.1 (k := 1) (by decide +kernel) rfl (lv_at hl 0 rfl) ?_
  refine lv_bipush (n := 8) (v := Int32.ofInt 8) X.1 X.2.1 (by decide +kernel) (by decide +kernel) ?_
  refine lv_icmp_ge (off := 22) (tgt := 125) X.1 X.2.1 (by decide +kernel) (by decide) (fun h => absurd h h1) (fun _ => ?_)
  refine lv_aload_n X.1 X.2.1 (k := 0) (by decide +kernel) rfl (lv_at hl 1 rfl) ?_
  refine va_get (D := D) (ci := 5) (v := .ref sa) (C := RX5) (T := TX5) (N := 10) X.1 X.2.1 X.2.2.2.2.1 (en_uw (c := 5) (r := (RX5, TX5, 10)) rfl) X.2.2.2.1 X.2.2.2.2.2.1 hP 0 rfl rfl 6 (by decide) (X.2.2.2.2.1 _ cw_274) (fun _ z => z) hfs (by decide +kernel) ?_
  refine lv_iload_n X.1 X.2.1 (k := 1) (by decide +kernel) rfl (lv_at hl 0 rfl) ?_
  refine cx_mk (i := 43) (i2 := 60) (cj := 4) (r := (RX4, TX4, 4)) (b := 68) (n := 2) (mc := 1) (ms := 40) (fs0 := cx_f4) (ex := (fun _ _ => True)) (pc' := 118) X ⟨⟨rfl, cw_244, cw_246, cw_6⟩, ⟨cx_t4, cx_d4⟩, cx_C4 l, ⟨cw_249, cw_248, cw_6, rfl, by decide, by decide, by decide +kernel⟩, ⟨hR.1.1, hR.1.2⟩, ⟨fun _ _ _ _ _ h => h, fun _ _ _ _ _ => trivial⟩, by decide +kernel, by decide +kernel, by decide +kernel⟩ rfl hl.1 (Or.inl hN) (Nat.le_of_ble_eq_true rfl) hR.2.1 hR.2.2 hP hD hS (fun q H1 locs1 hP1 hD1 hS1 => ?_)
  refine va_astq (r := (RX4, TX4, 4)) X.1 X.2.1 X.2.2.2.2.2.1 hP1 hD1 hS1 (Wa.length + 1) 3 ((h0, .inr (5, fs)) :: (Wa ++ ((sa, .inl (cs 3, 8, .inr (.inr (.inr (.inr f))))) :: Wb))).length 4 cx_at2 rfl (cx_at3 (x := (q 0, .inr (4, en_fs (fun a => q (a - 68)) cx_M 68 4)))) rfl h4 (by decide +kernel) (fun H2 locs2 hP2 hD2 hS2 => ?_)
  rw [h2, cx_set2] at hP2 hD2
  refine lv_iinc (i := 1) (n := 1) (k := 0) X.1 X.2.1 (by decide +kernel) hl rfl h3 (by decide) rfl (fun lsB hB => ?_)
  refine lv_goto (off := -22) (tgt := 100) X.1 X.2.1 (by decide +kernel) (by decide) ?_
  exact kk q lsB hB H2 locs2 hP2 hD2 hS2
theorem cx_istore {p : Program} {l : Launch} {e : Env} {R : Room} {s : State} {m : MethodId} {args : Array Value} {below : List Frame} {meth : Method} {c : Code} {cc : ByteArray} {own : String} {A : Nat → Prop} {D : va_G} {cs : Nat → ClassId} {Q : State → Prop} {lsA : Array Slot} {h0 ci cells slots pc pc' : Nat} {fs : List Value} {ws : va_W} {st : List Value} (X : cx_F p s m args c cc own 2 A D cs) (hpc : pc + 1 = pc') (hl : lv_has lsA 2 [(0, .ref h0)]) (hdg : decode cc pc = .ok (.istore_n 1, 1)) (kk : ∀ lsB : Array Slot, lv_has lsB 2 [(1, .int (Int32.ofNat 0)), (0, .ref h0)] → cx_W p l e R s m args below meth c A D Q lsB h0 ci cells slots pc' fs ws st) : cx_W p l e R s m args below meth c A D Q lsA h0 ci cells slots pc fs ws (.int (Int32.ofInt 0) :: st) := by
  subst hpc
  intro H locs hP hD hS
  exact lv_istore_n (k := 1) X.1 X.2.1 hdg rfl hl (by decide) rfl (fun lsB hB => kk lsB hB H locs hP hD hS)
