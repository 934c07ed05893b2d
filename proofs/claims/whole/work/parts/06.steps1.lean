/-! what the engine stands on: the frame of a method's walk, and each instruction -/
def en_Fx (p : Program) (R : Room) (s : State) (m : MethodId) (args : Array Value) (c : Code) (cc : ByteArray) (own : String) (nL h bu0 : Nat) (A : Nat → Prop) (cd : Nat → Nat → Nat) (D : va_G) (cs : Nat → ClassId) (sc : Nat × (Nat → Int)) : Prop :=
  p.tables.exec = Jvm.exec ∧ c.code = cc ∧ c.maxLocals = nL ∧ s.vm.findClass own = some m.cls ∧ (∀ w ∈ en_gw, w.before args s = true) ∧ va_K D vwCl (en_tys cs) s ∧ en_K cd A s s.heap ∧ (h ≤ R.frames ∧ 64 * h ≤ R.locals ∧ 37 * bu0 ≤ R.cells ∧ 932 * bu0 ≤ R.slots) ∧ (∀ q : Nat, s.heap.size ≤ q → A q) ∧ (∀ L : Nat, L + 1 = sc.1 → va_X (cd 9 0) L (fun j => Int32.ofInt (sc.2 j)) s s.heap ∧ cd 9 0 < s.heap.size ∧ ¬ A (cd 9 0) ∧ L < 2 ^ 31)
def en_In (s : State) (nL : Nat) (A : Nat → Prop) (cd : Nat → Nat → Nat) (D : va_G) (cs : Nat → ClassId) (ad0 : Nat → Nat) (M0 : Mm) (sL : Nat) (ad : Nat → Nat) (H : Heap) (locs : List Loc) (lsA : Array Slot) (ls : AL) (st : List AV) (M : Mm) : Prop :=
  lsA.size = nL ∧ lv_wf lsA ∧ ls.length = nL ∧ (∀ (i : Nat) (v : AV), ls.getD i none = some v → lsA[i]? = some (.val (en_rv ad cd v)) ∧ en_ok sL M v) ∧ (∀ v ∈ st, en_ok sL M v) ∧ va_P D vwCl (en_wd ad cs M) H ∧ va_D A (en_wd ad cs M) ∧ va_S A s.heap H locs ∧ en_agree ad0 ad M0 M
def en_At (p : Program) (l : Launch) (e : Env) (R : Room) (s : State) (m : MethodId) (args : Array Value) (below : List Frame) (meth : Method) (c : Code) (Q : State → Prop) (nL : Nat) (A : Nat → Prop) (cd : Nat → Nat → Nat) (D : va_G) (cs : Nat → ClassId) (ad0 : Nat → Nat) (M0 : Mm) (sL bu0 : Nat) (pc : Nat) : AK := fun ls st M bu =>
  bu ≤ bu0 → ∀ (ad : Nat → Nat) (H : Heap) (locs : List Loc) (lsA : Array Slot), en_In s nL A cd D cs ad0 M0 sL ad H locs lsA ls st M → W p l e R s m args below meth c H locs (37 * (bu0 - bu)) (932 * (bu0 - bu)) Q (F0 m pc lsA (st.map (en_rv ad cd)))
theorem en_In.stk {s : State} {nL : Nat} {A : Nat → Prop} {cd : Nat → Nat → Nat} {D : va_G} {cs : Nat → ClassId} {ad0 : Nat → Nat} {M0 : Mm} {sL : Nat} {ad : Nat → Nat} {H : Heap} {locs : List Loc} {lsA : Array Slot} {ls : AL} {st st' : List AV} {M : Mm} (I : en_In s nL A cd D cs ad0 M0 sL ad H locs lsA ls st M) (h : ∀ v ∈ st', en_ok sL M v) : en_In s nL A cd D cs ad0 M0 sL ad H locs lsA ls st' M :=
  ⟨I.1, I.2.1, I.2.2.1, I.2.2.2.1, h, I.2.2.2.2.2⟩
theorem en_In.tl {s : State} {nL : Nat} {A : Nat → Prop} {cd : Nat → Nat → Nat} {D : va_G} {cs : Nat → ClassId} {ad0 : Nat → Nat} {M0 : Mm} {sL : Nat} {ad : Nat → Nat} {H : Heap} {locs : List Loc} {lsA : Array Slot} {ls : AL} {v : AV} {st : List AV} {M : Mm} (I : en_In s nL A cd D cs ad0 M0 sL ad H locs lsA ls (v :: st) M) : en_In s nL A cd D cs ad0 M0 sL ad H locs lsA ls st M := I.stk (fun u hu => I.2.2.2.2.1 u (List.mem_cons_of_mem _ hu))
theorem en_In.hd {s : State} {nL : Nat} {A : Nat → Prop} {cd : Nat → Nat → Nat} {D : va_G} {cs : Nat → ClassId} {ad0 : Nat → Nat} {M0 : Mm} {sL : Nat} {ad : Nat → Nat} {H : Heap} {locs : List Loc} {lsA : Array Slot} {ls : AL} {v : AV} {st : List AV} {M : Mm} (I : en_In s nL A cd D cs ad0 M0 sL ad H locs lsA ls (v :: st) M) : en_ok sL M v := I.2.2.2.2.1 v List.mem_cons_self
theorem en_In.pu {s : State} {nL : Nat} {A : Nat → Prop} {cd : Nat → Nat → Nat} {D : va_G} {cs : Nat → ClassId} {ad0 : Nat → Nat} {M0 : Mm} {sL : Nat} {ad : Nat → Nat} {H : Heap} {locs : List Loc} {lsA : Array Slot} {ls : AL} {v : AV} {st : List AV} {M : Mm} (I : en_In s nL A cd D cs ad0 M0 sL ad H locs lsA ls st M) (h : en_ok sL M v) : en_In s nL A cd D cs ad0 M0 sL ad H locs lsA ls (v :: st) M := I.stk (fun u hu => by
  rcases List.mem_cons.mp hu with rfl | hu
  · exact h
  · exact I.2.2.2.2.1 u hu)
theorem en_okI (sL : Nat) (M : Mm) (x : Int) : en_ok sL M (.inl x) := trivial
theorem en_okL (sL : Nat) (M : Mm) (x : Int) : en_ok sL M (.inr (.inl x)) := trivial
theorem en_wr_of {x : Int} (h : en_rng x) : en_wr x = x := Int32.toInt_ofInt_of_le (by have := h.1; omega) (by have := h.2; omega)
theorem en_ofI_wr (x : Int) : Int32.ofInt (en_wr x) = Int32.ofInt x := Int32.ofInt_toInt _
theorem en_ix_in {j n : Nat} (h : j < n) (hn : n < 2 ^ 31) : vp_in (Int32.ofInt (j : Int)) n ∧ (Int32.ofInt (j : Int)).toNatClampNeg = j := by
  have e : Int32.ofInt (j : Int) = nI j := by
    show Int32.ofInt (j : Int) = Int32.ofNat j
    rw [Int32.ofInt_eq_ofNat]
  rw [e]
  exact ⟨vp_in_nI h hn, nI_clamp (by omega)⟩
section EN1
variable {ad : Nat → Nat} {H : Heap} {locs : List Loc} {lsA : Array Slot}
variable {p : Program} {l : Launch} {e : Env} {R : Room} {s : State} {m : MethodId} {args : Array Value} {below : List Frame} {meth : Method} {c : Code} {Q : State → Prop} {cc : ByteArray} {own : String} {nL h bu0 : Nat} {A : Nat → Prop} {cd : Nat → Nat → Nat} {D : va_G} {cs : Nat → ClassId} {sc : Nat × (Nat → Int)} {ad0 : Nat → Nat} {M0 : Mm} {pc : Nat} {ls : AL} {st r : List AV} {M : Mm} {bu : Nat} {k : AK} {K : Nat → AK}
theorem en_s_iconst (X : en_Fx p R s m args c cc own nL h bu0 A cd D cs sc) {n : Int} (hdg : decode cc pc = .ok (.iconst n, 1)) (hk : ∀ ls st M bu, k ls st M bu → en_At p l e R s m args below meth c Q nL A cd D cs ad0 M0 sc.1 bu0 (pc + 1) ls st M bu) (hs : k ls (.inl n :: st) M bu) : en_At p l e R s m args below meth c Q nL A cd D cs ad0 M0 sc.1 bu0 pc ls st M bu := by
  intro hb ad H locs lsA I
  exact lv_iconst X.1 X.2.1 hdg rfl (hk _ _ _ _ hs hb ad H locs lsA (I.pu (en_okI _ _ _)))
theorem en_s_bipush (X : en_Fx p R s m args c cc own nL h bu0 A cd D cs sc) {n : Int} (hdg : decode cc pc = .ok (.bipush n, 2)) (hn : (Int8.ofInt n).toInt32 = Int32.ofInt n) (hk : ∀ ls st M bu, k ls st M bu → en_At p l e R s m args below meth c Q nL A cd D cs ad0 M0 sc.1 bu0 (pc + 2) ls st M bu) (hs : k ls (.inl n :: st) M bu) : en_At p l e R s m args below meth c Q nL A cd D cs ad0 M0 sc.1 bu0 pc ls st M bu := by
  intro hb ad H locs lsA I
  exact lv_bipush X.1 X.2.1 hdg hn (hk _ _ _ _ hs hb ad H locs lsA (I.pu (en_okI _ _ _)))
theorem en_s_sipush (X : en_Fx p R s m args c cc own nL h bu0 A cd D cs sc) {n : Int} (hdg : decode cc pc = .ok (.sipush n, 3)) (hn : (Int16.ofInt n).toInt32 = Int32.ofInt n) (hk : ∀ ls st M bu, k ls st M bu → en_At p l e R s m args below meth c Q nL A cd D cs ad0 M0 sc.1 bu0 (pc + 3) ls st M bu) (hs : k ls (.inl n :: st) M bu) : en_At p l e R s m args below meth c Q nL A cd D cs ad0 M0 sc.1 bu0 pc ls st M bu := by
  intro hb ad H locs lsA I
  exact lv_sipush X.1 X.2.1 hdg hn (hk _ _ _ _ hs hb ad H locs lsA (I.pu (en_okI _ _ _)))
theorem en_s_lconst (X : en_Fx p R s m args c cc own nL h bu0 A cd D cs sc) {n : Fin 2} (hdg : decode cc pc = .ok (.lconst n, 1)) (hk : ∀ ls st M bu, k ls st M bu → en_At p l e R s m args below meth c Q nL A cd D cs ad0 M0 sc.1 bu0 (pc + 1) ls st M bu) (hs : k ls (.inr (.inl ((n : Nat) : Int)) :: st) M bu) : en_At p l e R s m args below meth c Q nL A cd D cs ad0 M0 sc.1 bu0 pc ls st M bu := by
  intro hb ad H locs lsA I
  exact lv_lconst (v := Int64.ofInt ((n : Nat) : Int)) X.1 X.2.1 hdg (by rw [Int64.ofInt_eq_ofNat]) (hk _ _ _ _ hs hb ad H locs lsA (I.pu (en_okL _ _ _)))
theorem en_s_ldc (X : en_Fx p R s m args c cc own nL h bu0 A cd D cs sc) {i : Nat} {v : Int} (hw : Cond.constant own i (Int32.ofInt v) ∈ en_gw) (hdg : decode cc pc = .ok (.ldc i, 2)) (hk : ∀ ls st M bu, k ls st M bu → en_At p l e R s m args below meth c Q nL A cd D cs ad0 M0 sc.1 bu0 (pc + 2) ls st M bu) (hs : k ls (.inl v :: st) M bu) : en_At p l e R s m args below meth c Q nL A cd D cs ad0 M0 sc.1 bu0 pc ls st M bu := by
  intro hb ad H locs lsA I
  exact lv_ldc X.1 X.2.1 X.2.2.2.1 (X.2.2.2.2.1 _ hw) hdg (hk _ _ _ _ hs hb ad H locs lsA (I.pu (en_okI _ _ _)))
theorem en_s_ldcw (X : en_Fx p R s m args c cc own nL h bu0 A cd D cs sc) {i : Nat} {v : Int} (hw : Cond.constant own i (Int32.ofInt v) ∈ en_gw) (hdg : decode cc pc = .ok (.ldc_w i, 3)) (hk : ∀ ls st M bu, k ls st M bu → en_At p l e R s m args below meth c Q nL A cd D cs ad0 M0 sc.1 bu0 (pc + 3) ls st M bu) (hs : k ls (.inl v :: st) M bu) : en_At p l e R s m args below meth c Q nL A cd D cs ad0 M0 sc.1 bu0 pc ls st M bu := by
  intro hb ad H locs lsA I
  exact lv_ldcw X.1 X.2.1 X.2.2.2.1 (X.2.2.2.2.1 _ hw) hdg (hk _ _ _ _ hs hb ad H locs lsA (I.pu (en_okI _ _ _)))
theorem en_s_ldc2 (X : en_Fx p R s m args c cc own nL h bu0 A cd D cs sc) {i : Nat} {v : Int} (hw : Cond.constantLong own i (Int64.ofInt v) ∈ en_gw) (hdg : decode cc pc = .ok (.ldc2_w i, 3)) (hk : ∀ ls st M bu, k ls st M bu → en_At p l e R s m args below meth c Q nL A cd D cs ad0 M0 sc.1 bu0 (pc + 3) ls st M bu) (hs : k ls (.inr (.inl v) :: st) M bu) : en_At p l e R s m args below meth c Q nL A cd D cs ad0 M0 sc.1 bu0 pc ls st M bu := by
  intro hb ad H locs lsA I
  exact lv_ldc2 X.1 X.2.1 X.2.2.2.1 (X.2.2.2.2.1 _ hw) hdg (hk _ _ _ _ hs hb ad H locs lsA (I.pu (en_okL _ _ _)))
theorem en_s_ldcS (X : en_Fx p R s m args c cc own nL h bu0 A cd D cs sc) {i o n : Nat} (ho : en_cn.getD o "" = own) (hw : (o, i, n) ∈ en_sr) (hn : n < 9) (hdg : decode cc pc = .ok (.ldc i, 2)) (hk : ∀ ls st M bu, k ls st M bu → en_At p l e R s m args below meth c Q nL A cd D cs ad0 M0 sc.1 bu0 (pc + 2) ls st M bu) (hs : k ls (.inr (.inr (7, n, 0)) :: st) M bu) : en_At p l e R s m args below meth c Q nL A cd D cs ad0 M0 sc.1 bu0 pc ls st M bu := by
  intro hb ad H locs lsA I
  have hz := X.2.2.2.2.2.2.1.2.2.2.1 _ hw
  rw [ho] at hz
  exact va_ldcS X.1 X.2.1 X.2.2.2.1 hz hdg (hk _ _ _ _ hs hb ad H locs lsA (I.pu (Or.inr (Or.inr (Or.inl ⟨rfl, hn⟩)))))
theorem en_ld_get {ls : AL} {j : Nat} {kk : AV → Prop} (h : en_ld ls j kk) : ∃ v, ls.getD j none = some v ∧ kk v := by
  unfold en_ld at h
  cases hv : ls.getD j none with
  | none => rw [hv] at h; exact h.elim
  | some v => rw [hv] at h; exact ⟨v, rfl, h⟩
/-- a local's value, whatever its kind, by the machine's three loads -/
theorem en_s_iload (X : en_Fx p R s m args c cc own nL h bu0 A cd D cs sc) {j : Nat} (hdg : decode cc pc = .ok (.iload j, 2)) (hk : ∀ ls st M bu, k ls st M bu → en_At p l e R s m args below meth c Q nL A cd D cs ad0 M0 sc.1 bu0 (pc + 2) ls st M bu) {v : AV} (hi : ∃ x, v = .inl x) (hl : ls.getD j none = some v) (hs : k ls (v :: st) M bu) : en_At p l e R s m args below meth c Q nL A cd D cs ad0 M0 sc.1 bu0 pc ls st M bu := by
  intro hb ad H locs lsA I
  obtain ⟨x, rfl⟩ := hi
  obtain ⟨h1, h2⟩ := I.2.2.2.1 _ _ hl
  exact lv_iload X.1 X.2.1 hdg h1 (hk _ _ _ _ hs hb ad H locs lsA (I.pu h2))
theorem en_s_iload_n (X : en_Fx p R s m args c cc own nL h bu0 A cd D cs sc) {j : Fin 4} (hdg : decode cc pc = .ok (.iload_n j, 1)) (hk : ∀ ls st M bu, k ls st M bu → en_At p l e R s m args below meth c Q nL A cd D cs ad0 M0 sc.1 bu0 (pc + 1) ls st M bu) {v : AV} (hi : ∃ x, v = .inl x) (hl : ls.getD j none = some v) (hs : k ls (v :: st) M bu) : en_At p l e R s m args below meth c Q nL A cd D cs ad0 M0 sc.1 bu0 pc ls st M bu := by
  intro hb ad H locs lsA I
  obtain ⟨x, rfl⟩ := hi
  obtain ⟨h1, h2⟩ := I.2.2.2.1 _ _ hl
  exact lv_iload_n X.1 X.2.1 hdg rfl h1 (hk _ _ _ _ hs hb ad H locs lsA (I.pu h2))
theorem en_s_lload (X : en_Fx p R s m args c cc own nL h bu0 A cd D cs sc) {j : Nat} (hdg : decode cc pc = .ok (.lload j, 2)) (hk : ∀ ls st M bu, k ls st M bu → en_At p l e R s m args below meth c Q nL A cd D cs ad0 M0 sc.1 bu0 (pc + 2) ls st M bu) {v : AV} (hi : ∃ x, v = .inr (.inl x)) (hl : ls.getD j none = some v) (hs : k ls (v :: st) M bu) : en_At p l e R s m args below meth c Q nL A cd D cs ad0 M0 sc.1 bu0 pc ls st M bu := by
  intro hb ad H locs lsA I
  obtain ⟨x, rfl⟩ := hi
  obtain ⟨h1, h2⟩ := I.2.2.2.1 _ _ hl
  exact lv_lload X.1 X.2.1 hdg h1 (hk _ _ _ _ hs hb ad H locs lsA (I.pu h2))
theorem en_s_lload_n (X : en_Fx p R s m args c cc own nL h bu0 A cd D cs sc) {j : Fin 4} (hdg : decode cc pc = .ok (.lload_n j, 1)) (hk : ∀ ls st M bu, k ls st M bu → en_At p l e R s m args below meth c Q nL A cd D cs ad0 M0 sc.1 bu0 (pc + 1) ls st M bu) {v : AV} (hi : ∃ x, v = .inr (.inl x)) (hl : ls.getD j none = some v) (hs : k ls (v :: st) M bu) : en_At p l e R s m args below meth c Q nL A cd D cs ad0 M0 sc.1 bu0 pc ls st M bu := by
  intro hb ad H locs lsA I
  obtain ⟨x, rfl⟩ := hi
  obtain ⟨h1, h2⟩ := I.2.2.2.1 _ _ hl
  exact lv_lload_n X.1 X.2.1 hdg rfl h1 (hk _ _ _ _ hs hb ad H locs lsA (I.pu h2))
theorem en_s_aload (X : en_Fx p R s m args c cc own nL h bu0 A cd D cs sc) {j : Nat} (hdg : decode cc pc = .ok (.aload j, 2)) (hk : ∀ ls st M bu, k ls st M bu → en_At p l e R s m args below meth c Q nL A cd D cs ad0 M0 sc.1 bu0 (pc + 2) ls st M bu) {v : AV} (hi : ∀ ad, ∃ x, en_rv ad cd v = .ref x) (hl : ls.getD j none = some v) (hs : k ls (v :: st) M bu) : en_At p l e R s m args below meth c Q nL A cd D cs ad0 M0 sc.1 bu0 pc ls st M bu := by
  intro hb ad H locs lsA I
  obtain ⟨x, hx⟩ := hi ad
  obtain ⟨h1, h2⟩ := I.2.2.2.1 _ _ hl
  have hh := hk _ _ _ _ hs hb ad H locs lsA (I.pu h2)
  rw [List.map_cons, hx] at hh
  rw [hx] at h1
  exact lv_aload X.1 X.2.1 hdg h1 hh
theorem en_s_aload_n (X : en_Fx p R s m args c cc own nL h bu0 A cd D cs sc) {j : Fin 4} (hdg : decode cc pc = .ok (.aload_n j, 1)) (hk : ∀ ls st M bu, k ls st M bu → en_At p l e R s m args below meth c Q nL A cd D cs ad0 M0 sc.1 bu0 (pc + 1) ls st M bu) {v : AV} (hi : ∀ ad, ∃ x, en_rv ad cd v = .ref x) (hl : ls.getD j none = some v) (hs : k ls (v :: st) M bu) : en_At p l e R s m args below meth c Q nL A cd D cs ad0 M0 sc.1 bu0 pc ls st M bu := by
  intro hb ad H locs lsA I
  obtain ⟨x, hx⟩ := hi ad
  obtain ⟨h1, h2⟩ := I.2.2.2.1 _ _ hl
  have hh := hk _ _ _ _ hs hb ad H locs lsA (I.pu h2)
  rw [List.map_cons, hx] at hh
  rw [hx] at h1
  exact lv_aload_n X.1 X.2.1 hdg rfl h1 hh
/-- the pairs of a row of locals -/
def en_prs (ad : Nat → Nat) (cd : Nat → Nat → Nat) (ls : AL) : List (Nat × Value) := ls.zipIdx.filterMap (fun q => q.1.map (fun v => (q.2, en_rv ad cd v)))
theorem en_prs_mem {ad : Nat → Nat} {cd : Nat → Nat → Nat} {ls : AL} {q : Nat × Value} : q ∈ en_prs ad cd ls ↔ ∃ v, ls.getD q.1 none = some v ∧ q.2 = en_rv ad cd v := by
  obtain ⟨i, w⟩ := q
  unfold en_prs
  rw [List.mem_filterMap]
  constructor
  · rintro ⟨⟨o, j⟩, hm, he⟩
    cases o with
    | none => cases he
    | some v =>
      have h1 := List.mem_zipIdx_iff_getElem?.mp hm
      simp only [Option.map_some, Option.some.injEq, Prod.mk.injEq] at he
      obtain ⟨rfl, rfl⟩ := he
      exact ⟨v, by rw [List.getD_eq_getElem?_getD, h1]; rfl, rfl⟩
  · rintro ⟨v, h1, h2⟩
    refine ⟨(some v, i), List.mem_zipIdx_iff_getElem?.mpr ?_, by dsimp only at h2; rw [h2]; rfl⟩
    rw [List.getD_eq_getElem?_getD] at h1
    cases hh : ls[i]? with
    | none => rw [hh] at h1; cases h1
    | some o => rw [hh] at h1; simp only [Option.getD_some] at h1; rw [h1]
theorem en_In.has (I : en_In s nL A cd D cs ad0 M0 sc.1 ad H locs lsA ls st M) : lv_has lsA nL (en_prs ad cd ls) := ⟨I.1, I.2.1, fun q hq => by
  obtain ⟨v, h1, h2⟩ := en_prs_mem.mp hq
  rw [h2]
  exact (I.2.2.2.1 _ _ h1).1⟩
/-- behind a store of one slot -/
theorem en_In.sto {j : Nat} {v : AV} {lsB : Array Slot} (I : en_In s nL A cd D cs ad0 M0 sc.1 ad H locs lsA ls st M) (hv : en_ok sc.1 M v) (hj : en_sto ls j = true) (hh : lv_has lsB nL ((j, en_rv ad cd v) :: (en_prs ad cd ls).filter (fun q => !(q.1 == j) && !(q.1 + 1 == j && q.2.category == 2)))) : en_In s nL A cd D cs ad0 M0 sc.1 ad H locs lsB (ls.set j (some v)) st M := by
  have hjl : j < ls.length := by
    unfold en_sto at hj
    simp only [Bool.and_eq_true] at hj
    exact Nat.le_of_ble_eq_true hj.1
  refine ⟨hh.1, hh.2.1, by rw [List.length_set]; exact I.2.2.1, fun i w hw => ?_, I.2.2.2.2⟩
  rw [List.getD_eq_getElem?_getD] at hw
  by_cases hij : i = j
  · subst hij
    rw [List.getElem?_set_self hjl] at hw
    simp only [Option.getD_some, Option.some.injEq] at hw
    subst hw
    exact ⟨hh.2.2 (i, en_rv ad cd v) List.mem_cons_self, hv⟩
  · rw [List.getElem?_set_ne (Ne.symm hij), ← List.getD_eq_getElem?_getD] at hw
    obtain ⟨h1, h2⟩ := I.2.2.2.1 _ _ hw
    refine ⟨hh.2.2 (i, en_rv ad cd w) (List.mem_cons_of_mem _ (List.mem_filter.mpr ⟨en_prs_mem.mpr ⟨w, hw, rfl⟩, ?_⟩)), h2⟩
    simp only [Bool.and_eq_true, Bool.not_eq_true', beq_eq_false_iff_ne, ne_eq, Bool.and_eq_false_iff]
    refine ⟨hij, ?_⟩
    by_cases h3 : i + 1 = j
    · refine Or.inr ?_
      rw [en_cat_eq]
      subst h3
      unfold en_sto at hj
      simp only [Bool.and_eq_true] at hj
      have h4 := hj.2
      rw [hw] at h4
      obtain x | x | x := w
      · simp [en_cat]
      · cases h4
      · simp [en_cat]
    · exact Or.inl h3
theorem en_s_istore (X : en_Fx p R s m args c cc own nL h bu0 A cd D cs sc) {j : Nat} {x : Int} (hdg : decode cc pc = .ok (.istore j, 2)) (hk : ∀ ls st M bu, k ls st M bu → en_At p l e R s m args below meth c Q nL A cd D cs ad0 M0 sc.1 bu0 (pc + 2) ls st M bu) (hj : en_sto ls j = true) (hs : k (ls.set j (some (.inl x))) r M bu) : en_At p l e R s m args below meth c Q nL A cd D cs ad0 M0 sc.1 bu0 pc ls (.inl x :: r) M bu := by
  intro hb ad H locs lsA I
  have hjl : j < ls.length := by
    have hj := hj
    unfold en_sto at hj
    simp only [Bool.and_eq_true] at hj
    exact Nat.le_of_ble_eq_true hj.1
  exact lv_istore X.1 X.2.1 hdg I.has (by rw [← I.2.2.1]; exact hjl) rfl (fun lsB hB => hk _ _ _ _ hs hb ad H locs lsB (I.tl.sto (en_okI _ _ _) hj hB))
theorem en_s_istore_n (X : en_Fx p R s m args c cc own nL h bu0 A cd D cs sc) {j : Fin 4} {x : Int} (hdg : decode cc pc = .ok (.istore_n j, 1)) (hk : ∀ ls st M bu, k ls st M bu → en_At p l e R s m args below meth c Q nL A cd D cs ad0 M0 sc.1 bu0 (pc + 1) ls st M bu) (hj : en_sto ls j = true) (hs : k (ls.set j (some (.inl x))) r M bu) : en_At p l e R s m args below meth c Q nL A cd D cs ad0 M0 sc.1 bu0 pc ls (.inl x :: r) M bu := by
  intro hb ad H locs lsA I
  have hjl : (j : Nat) < ls.length := by
    have hj := hj
    unfold en_sto at hj
    simp only [Bool.and_eq_true] at hj
    exact Nat.le_of_ble_eq_true hj.1
  exact lv_istore_n X.1 X.2.1 hdg rfl I.has (by rw [← I.2.2.1]; exact hjl) rfl (fun lsB hB => hk _ _ _ _ hs hb ad H locs lsB (I.tl.sto (en_okI _ _ _) hj hB))
theorem en_s_astore (X : en_Fx p R s m args c cc own nL h bu0 A cd D cs sc) {j : Nat} {v : AV} (hi : ∀ ad, ∃ x, en_rv ad cd v = .ref x) (hdg : decode cc pc = .ok (.astore j, 2)) (hk : ∀ ls st M bu, k ls st M bu → en_At p l e R s m args below meth c Q nL A cd D cs ad0 M0 sc.1 bu0 (pc + 2) ls st M bu) (hj : en_sto ls j = true) (hs : k (ls.set j (some v)) r M bu) : en_At p l e R s m args below meth c Q nL A cd D cs ad0 M0 sc.1 bu0 pc ls (v :: r) M bu := by
  intro hb ad H locs lsA I
  have hjl : j < ls.length := by
    have hj := hj
    unfold en_sto at hj
    simp only [Bool.and_eq_true] at hj
    exact Nat.le_of_ble_eq_true hj.1
  obtain ⟨x, hx⟩ := hi ad
  rw [List.map_cons, hx]
  exact lv_astore X.1 X.2.1 hdg I.has (by rw [← I.2.2.1]; exact hjl) rfl (fun lsB hB => hk _ _ _ _ hs hb ad H locs lsB (I.tl.sto I.hd hj (by rw [hx]; exact hB)))
theorem en_s_astore_n (X : en_Fx p R s m args c cc own nL h bu0 A cd D cs sc) {j : Fin 4} {v : AV} (hi : ∀ ad, ∃ x, en_rv ad cd v = .ref x) (hdg : decode cc pc = .ok (.astore_n j, 1)) (hk : ∀ ls st M bu, k ls st M bu → en_At p l e R s m args below meth c Q nL A cd D cs ad0 M0 sc.1 bu0 (pc + 1) ls st M bu) (hj : en_sto ls j = true) (hs : k (ls.set j (some v)) r M bu) : en_At p l e R s m args below meth c Q nL A cd D cs ad0 M0 sc.1 bu0 pc ls (v :: r) M bu := by
  intro hb ad H locs lsA I
  have hjl : (j : Nat) < ls.length := by
    have hj := hj
    unfold en_sto at hj
    simp only [Bool.and_eq_true] at hj
    exact Nat.le_of_ble_eq_true hj.1
  obtain ⟨x, hx⟩ := hi ad
  rw [List.map_cons, hx]
  exact lv_astore_n X.1 X.2.1 hdg rfl I.has (by rw [← I.2.2.1]; exact hjl) rfl (fun lsB hB => hk _ _ _ _ hs hb ad H locs lsB (I.tl.sto I.hd hj (by rw [hx]; exact hB)))
theorem en_s_iinc (X : en_Fx p R s m args c cc own nL h bu0 A cd D cs sc) {j : Nat} {n x : Int} (hdg : decode cc pc = .ok (.iinc j n, 3)) (hk : ∀ ls st M bu, k ls st M bu → en_At p l e R s m args below meth c Q nL A cd D cs ad0 M0 sc.1 bu0 (pc + 3) ls st M bu) (hl : ls.getD j none = some (.inl x)) (hj : en_sto ls j = true) (hs : k (ls.set j (some (.inl (x + n)))) st M bu) : en_At p l e R s m args below meth c Q nL A cd D cs ad0 M0 sc.1 bu0 pc ls st M bu := by
  intro hb ad H locs lsA I
  have hjl : j < ls.length := by
    have hj := hj
    unfold en_sto at hj
    simp only [Bool.and_eq_true] at hj
    exact Nat.le_of_ble_eq_true hj.1
  obtain ⟨q, hq⟩ := List.getElem?_of_mem (en_prs_mem (ad := ad) (cd := cd) (ls := ls) (q := (j, en_rv ad cd (.inl x))) |>.mpr ⟨_, hl, rfl⟩)
  exact lv_iinc (k := q) (x := Int32.ofInt x) (v := Int32.ofInt (x + n)) X.1 X.2.1 hdg I.has hq (by rw [Int32.ofInt_add]) (by rw [← I.2.2.1]; exact hjl) rfl (fun lsB hB => hk _ _ _ _ hs hb ad H locs lsB (I.sto (en_okI _ _ _) hj hB))
theorem en_s_iadd (X : en_Fx p R s m args c cc own nL h bu0 A cd D cs sc) {a b : Int} (hdg : decode cc pc = .ok (.iadd, 1)) (hk : ∀ ls st M bu, k ls st M bu → en_At p l e R s m args below meth c Q nL A cd D cs ad0 M0 sc.1 bu0 (pc + 1) ls st M bu) (hs : k ls (.inl (a + b) :: r) M bu) : en_At p l e R s m args below meth c Q nL A cd D cs ad0 M0 sc.1 bu0 pc ls (.inl b :: .inl a :: r) M bu := by
  intro hb ad H locs lsA I
  have hh := hk _ _ _ _ hs hb ad H locs lsA (I.tl.tl.pu (en_okI _ _ _))
  refine lv_iadd X.1 X.2.1 hdg ?_
  rw [List.map_cons, show en_rv ad cd (.inl (a + b)) = .int (Int32.ofInt a + Int32.ofInt b) from congrArg Value.int (Int32.ofInt_add _ _)] at hh
  exact hh
theorem en_s_isub (X : en_Fx p R s m args c cc own nL h bu0 A cd D cs sc) {a b : Int} (hdg : decode cc pc = .ok (.isub, 1)) (hk : ∀ ls st M bu, k ls st M bu → en_At p l e R s m args below meth c Q nL A cd D cs ad0 M0 sc.1 bu0 (pc + 1) ls st M bu) (hs : k ls (.inl (a - b) :: r) M bu) : en_At p l e R s m args below meth c Q nL A cd D cs ad0 M0 sc.1 bu0 pc ls (.inl b :: .inl a :: r) M bu := by
  intro hb ad H locs lsA I
  have hh := hk _ _ _ _ hs hb ad H locs lsA (I.tl.tl.pu (en_okI _ _ _))
  refine lv_isub X.1 X.2.1 hdg ?_
  rw [List.map_cons, show en_rv ad cd (.inl (a - b)) = .int (Int32.ofInt a - Int32.ofInt b) from congrArg Value.int (Int32.ofInt_sub _ _)] at hh
  exact hh
theorem en_s_imul (X : en_Fx p R s m args c cc own nL h bu0 A cd D cs sc) {a b : Int} (hdg : decode cc pc = .ok (.imul, 1)) (hk : ∀ ls st M bu, k ls st M bu → en_At p l e R s m args below meth c Q nL A cd D cs ad0 M0 sc.1 bu0 (pc + 1) ls st M bu) (hs : k ls (.inl (a * b) :: r) M bu) : en_At p l e R s m args below meth c Q nL A cd D cs ad0 M0 sc.1 bu0 pc ls (.inl b :: .inl a :: r) M bu := by
  intro hb ad H locs lsA I
  have hh := hk _ _ _ _ hs hb ad H locs lsA (I.tl.tl.pu (en_okI _ _ _))
  refine lv_imul X.1 X.2.1 hdg ?_
  rw [List.map_cons, show en_rv ad cd (.inl (a * b)) = .int (Int32.ofInt a * Int32.ofInt b) from congrArg Value.int (Int32.ofInt_mul _ _)] at hh
  exact hh
theorem en_s_iand (X : en_Fx p R s m args c cc own nL h bu0 A cd D cs sc) {a b : Int} (hdg : decode cc pc = .ok (.iand, 1)) (hk : ∀ ls st M bu, k ls st M bu → en_At p l e R s m args below meth c Q nL A cd D cs ad0 M0 sc.1 bu0 (pc + 1) ls st M bu) (hs : k ls (.inl (en_and a b) :: r) M bu) : en_At p l e R s m args below meth c Q nL A cd D cs ad0 M0 sc.1 bu0 pc ls (.inl b :: .inl a :: r) M bu := by
  intro hb ad H locs lsA I
  have hh := hk _ _ _ _ hs hb ad H locs lsA (I.tl.tl.pu (en_okI _ _ _))
  refine lv_iand X.1 X.2.1 hdg ?_
  rw [List.map_cons, show en_rv ad cd (.inl (en_and a b)) = .int (Int32.ofInt a &&& Int32.ofInt b) from congrArg Value.int (Int32.ofInt_toInt _)] at hh
  exact hh
theorem en_s_ior (X : en_Fx p R s m args c cc own nL h bu0 A cd D cs sc) {a b : Int} (hdg : decode cc pc = .ok (.ior, 1)) (hk : ∀ ls st M bu, k ls st M bu → en_At p l e R s m args below meth c Q nL A cd D cs ad0 M0 sc.1 bu0 (pc + 1) ls st M bu) (hs : k ls (.inl (en_or a b) :: r) M bu) : en_At p l e R s m args below meth c Q nL A cd D cs ad0 M0 sc.1 bu0 pc ls (.inl b :: .inl a :: r) M bu := by
  intro hb ad H locs lsA I
  have hh := hk _ _ _ _ hs hb ad H locs lsA (I.tl.tl.pu (en_okI _ _ _))
  refine lv_ior X.1 X.2.1 hdg ?_
  rw [List.map_cons, show en_rv ad cd (.inl (en_or a b)) = .int (Int32.ofInt a ||| Int32.ofInt b) from congrArg Value.int (Int32.ofInt_toInt _)] at hh
  exact hh
theorem en_s_ixor (X : en_Fx p R s m args c cc own nL h bu0 A cd D cs sc) {a b : Int} (hdg : decode cc pc = .ok (.ixor, 1)) (hk : ∀ ls st M bu, k ls st M bu → en_At p l e R s m args below meth c Q nL A cd D cs ad0 M0 sc.1 bu0 (pc + 1) ls st M bu) (hs : k ls (.inl (en_xor a b) :: r) M bu) : en_At p l e R s m args below meth c Q nL A cd D cs ad0 M0 sc.1 bu0 pc ls (.inl b :: .inl a :: r) M bu := by
  intro hb ad H locs lsA I
  have hh := hk _ _ _ _ hs hb ad H locs lsA (I.tl.tl.pu (en_okI _ _ _))
  refine lv_ixor X.1 X.2.1 hdg ?_
  rw [List.map_cons, show en_rv ad cd (.inl (en_xor a b)) = .int (Int32.ofInt a ^^^ Int32.ofInt b) from congrArg Value.int (Int32.ofInt_toInt _)] at hh
  exact hh
theorem en_s_ishl (X : en_Fx p R s m args c cc own nL h bu0 A cd D cs sc) {a b : Int} (hdg : decode cc pc = .ok (.ishl, 1)) (hk : ∀ ls st M bu, k ls st M bu → en_At p l e R s m args below meth c Q nL A cd D cs ad0 M0 sc.1 bu0 (pc + 1) ls st M bu) (hs : k ls (.inl (en_shl a b) :: r) M bu) : en_At p l e R s m args below meth c Q nL A cd D cs ad0 M0 sc.1 bu0 pc ls (.inl b :: .inl a :: r) M bu := by
  intro hb ad H locs lsA I
  have hh := hk _ _ _ _ hs hb ad H locs lsA (I.tl.tl.pu (en_okI _ _ _))
  refine lv_ishl X.1 X.2.1 hdg ?_
  rw [List.map_cons, show en_rv ad cd (.inl (en_shl a b)) = .int (Int32.ofInt a <<< (Int32.ofInt b &&& 31)) from congrArg Value.int (Int32.ofInt_toInt _)] at hh
  exact hh
theorem en_s_ishr (X : en_Fx p R s m args c cc own nL h bu0 A cd D cs sc) {a b : Int} (hdg : decode cc pc = .ok (.ishr, 1)) (hk : ∀ ls st M bu, k ls st M bu → en_At p l e R s m args below meth c Q nL A cd D cs ad0 M0 sc.1 bu0 (pc + 1) ls st M bu) (hs : k ls (.inl (en_shr a b) :: r) M bu) : en_At p l e R s m args below meth c Q nL A cd D cs ad0 M0 sc.1 bu0 pc ls (.inl b :: .inl a :: r) M bu := by
  intro hb ad H locs lsA I
  have hh := hk _ _ _ _ hs hb ad H locs lsA (I.tl.tl.pu (en_okI _ _ _))
  refine lv_ishr X.1 X.2.1 hdg ?_
  rw [List.map_cons, show en_rv ad cd (.inl (en_shr a b)) = .int (Int32.ofInt a >>> (Int32.ofInt b &&& 31)) from congrArg Value.int (Int32.ofInt_toInt _)] at hh
  exact hh
theorem en_s_iushr (X : en_Fx p R s m args c cc own nL h bu0 A cd D cs sc) {a b : Int} (hdg : decode cc pc = .ok (.iushr, 1)) (hk : ∀ ls st M bu, k ls st M bu → en_At p l e R s m args below meth c Q nL A cd D cs ad0 M0 sc.1 bu0 (pc + 1) ls st M bu) (hs : k ls (.inl (en_ushr a b) :: r) M bu) : en_At p l e R s m args below meth c Q nL A cd D cs ad0 M0 sc.1 bu0 pc ls (.inl b :: .inl a :: r) M bu := by
  intro hb ad H locs lsA I
  exact lv_iushr X.1 X.2.1 hdg (Int32.ofInt_toInt _).symm (hk _ _ _ _ hs hb ad H locs lsA (I.tl.tl.pu (en_okI _ _ _)))
theorem en_wr_ne {b : Int} (h : ¬ en_wr b = 0) : ¬ Int32.ofInt b = 0 := fun q => h (by unfold en_wr; rw [q]; rfl)
theorem en_s_idiv (X : en_Fx p R s m args c cc own nL h bu0 A cd D cs sc) {a b : Int} (hne : ¬ en_wr b = 0) (hdg : decode cc pc = .ok (.idiv, 1)) (hk : ∀ ls st M bu, k ls st M bu → en_At p l e R s m args below meth c Q nL A cd D cs ad0 M0 sc.1 bu0 (pc + 1) ls st M bu) (hs : k ls (.inl (en_div a b) :: r) M bu) : en_At p l e R s m args below meth c Q nL A cd D cs ad0 M0 sc.1 bu0 pc ls (.inl b :: .inl a :: r) M bu := by
  intro hb ad H locs lsA I
  have hh := hk _ _ _ _ hs hb ad H locs lsA (I.tl.tl.pu (en_okI _ _ _))
  refine lv_idiv X.1 X.2.1 hdg (en_wr_ne hne) ?_
  rw [List.map_cons, show en_rv ad cd (.inl (en_div a b)) = .int (Int32.ofInt a / Int32.ofInt b) from congrArg Value.int (Int32.ofInt_toInt _)] at hh
  exact hh
theorem en_s_irem (X : en_Fx p R s m args c cc own nL h bu0 A cd D cs sc) {a b : Int} (hne : ¬ en_wr b = 0) (hdg : decode cc pc = .ok (.irem, 1)) (hk : ∀ ls st M bu, k ls st M bu → en_At p l e R s m args below meth c Q nL A cd D cs ad0 M0 sc.1 bu0 (pc + 1) ls st M bu) (hs : k ls (.inl (en_rem a b) :: r) M bu) : en_At p l e R s m args below meth c Q nL A cd D cs ad0 M0 sc.1 bu0 pc ls (.inl b :: .inl a :: r) M bu := by
  intro hb ad H locs lsA I
  have hh := hk _ _ _ _ hs hb ad H locs lsA (I.tl.tl.pu (en_okI _ _ _))
  refine lv_irem X.1 X.2.1 hdg (en_wr_ne hne) ?_
  rw [List.map_cons, show en_rv ad cd (.inl (en_rem a b)) = .int (Int32.ofInt a - Int32.ofInt a / Int32.ofInt b * Int32.ofInt b) from congrArg Value.int (Int32.ofInt_toInt _)] at hh
  exact hh
theorem en_s_ineg (X : en_Fx p R s m args c cc own nL h bu0 A cd D cs sc) {a : Int} (hdg : decode cc pc = .ok (.ineg, 1)) (hk : ∀ ls st M bu, k ls st M bu → en_At p l e R s m args below meth c Q nL A cd D cs ad0 M0 sc.1 bu0 (pc + 1) ls st M bu) (hs : k ls (.inl (-a) :: r) M bu) : en_At p l e R s m args below meth c Q nL A cd D cs ad0 M0 sc.1 bu0 pc ls (.inl a :: r) M bu := by
  intro hb ad H locs lsA I
  have hh := hk _ _ _ _ hs hb ad H locs lsA (I.tl.pu (en_okI _ _ _))
  refine lv_ineg X.1 X.2.1 hdg ?_
  rw [List.map_cons, show en_rv ad cd (.inl (-a)) = .int (-Int32.ofInt a) from congrArg Value.int (Int32.ofInt_neg _)] at hh
  exact hh
theorem en_s_i2l (X : en_Fx p R s m args c cc own nL h bu0 A cd D cs sc) {a : Int} (hdg : decode cc pc = .ok (.i2l, 1)) (hk : ∀ ls st M bu, k ls st M bu → en_At p l e R s m args below meth c Q nL A cd D cs ad0 M0 sc.1 bu0 (pc + 1) ls st M bu) (hs : k ls (.inr (.inl (en_wr a)) :: r) M bu) : en_At p l e R s m args below meth c Q nL A cd D cs ad0 M0 sc.1 bu0 pc ls (.inl a :: r) M bu := by
  intro hb ad H locs lsA I
  exact lv_i2l (v := Int64.ofInt (en_wr a)) X.1 X.2.1 hdg (Int64.toInt.inj (by unfold en_wr; rw [Int32.toInt_toInt64, Int64.toInt_ofInt_of_le (by have := (Int32.ofInt a).le_toInt; omega) (by have := (Int32.ofInt a).toInt_lt; omega)])) (hk _ _ _ _ hs hb ad H locs lsA (I.tl.pu (en_okL _ _ _)))
theorem en_s_l2i (X : en_Fx p R s m args c cc own nL h bu0 A cd D cs sc) {a : Int} (hdg : decode cc pc = .ok (.l2i, 1)) (hk : ∀ ls st M bu, k ls st M bu → en_At p l e R s m args below meth c Q nL A cd D cs ad0 M0 sc.1 bu0 (pc + 1) ls st M bu) (hs : k ls (.inl a :: r) M bu) : en_At p l e R s m args below meth c Q nL A cd D cs ad0 M0 sc.1 bu0 pc ls (.inr (.inl a) :: r) M bu := by
  intro hb ad H locs lsA I
  exact lv_l2i X.1 X.2.1 hdg Int64.toInt32_ofInt (hk _ _ _ _ hs hb ad H locs lsA (I.tl.pu (en_okI _ _ _)))
theorem en_s_i2b (X : en_Fx p R s m args c cc own nL h bu0 A cd D cs sc) {a : Int} (hdg : decode cc pc = .ok (.i2b, 1)) (hk : ∀ ls st M bu, k ls st M bu → en_At p l e R s m args below meth c Q nL A cd D cs ad0 M0 sc.1 bu0 (pc + 1) ls st M bu) (hs : k ls (.inl (en_i2b a) :: r) M bu) : en_At p l e R s m args below meth c Q nL A cd D cs ad0 M0 sc.1 bu0 pc ls (.inl a :: r) M bu := by
  intro hb ad H locs lsA I
  exact lv_i2b X.1 X.2.1 hdg (Int32.ofInt_toInt _).symm (hk _ _ _ _ hs hb ad H locs lsA (I.tl.pu (en_okI _ _ _)))
theorem en_s_i2s (X : en_Fx p R s m args c cc own nL h bu0 A cd D cs sc) {a : Int} (hdg : decode cc pc = .ok (.i2s, 1)) (hk : ∀ ls st M bu, k ls st M bu → en_At p l e R s m args below meth c Q nL A cd D cs ad0 M0 sc.1 bu0 (pc + 1) ls st M bu) (hs : k ls (.inl (en_i2s a) :: r) M bu) : en_At p l e R s m args below meth c Q nL A cd D cs ad0 M0 sc.1 bu0 pc ls (.inl a :: r) M bu := by
  intro hb ad H locs lsA I
  exact lv_i2s X.1 X.2.1 hdg (Int32.ofInt_toInt _).symm (hk _ _ _ _ hs hb ad H locs lsA (I.tl.pu (en_okI _ _ _)))
theorem en_s_i2c (X : en_Fx p R s m args c cc own nL h bu0 A cd D cs sc) {a : Int} (hdg : decode cc pc = .ok (.i2c, 1)) (hk : ∀ ls st M bu, k ls st M bu → en_At p l e R s m args below meth c Q nL A cd D cs ad0 M0 sc.1 bu0 (pc + 1) ls st M bu) (hs : k ls (.inl (en_i2c a) :: r) M bu) : en_At p l e R s m args below meth c Q nL A cd D cs ad0 M0 sc.1 bu0 pc ls (.inl a :: r) M bu := by
  intro hb ad H locs lsA I
  exact lv_i2c X.1 X.2.1 hdg (Int32.ofInt_toInt _).symm (hk _ _ _ _ hs hb ad H locs lsA (I.tl.pu (en_okI _ _ _)))
theorem en_s_lshl (X : en_Fx p R s m args c cc own nL h bu0 A cd D cs sc) {a b : Int} (hdg : decode cc pc = .ok (.lshl, 1)) (hk : ∀ ls st M bu, k ls st M bu → en_At p l e R s m args below meth c Q nL A cd D cs ad0 M0 sc.1 bu0 (pc + 1) ls st M bu) (hs : k ls (.inr (.inl (en_lshl a b)) :: r) M bu) : en_At p l e R s m args below meth c Q nL A cd D cs ad0 M0 sc.1 bu0 pc ls (.inl b :: .inr (.inl a) :: r) M bu := by
  intro hb ad H locs lsA I
  exact lv_lshl X.1 X.2.1 hdg (Int64.ofInt_toInt _).symm (hk _ _ _ _ hs hb ad H locs lsA (I.tl.tl.pu (en_okL _ _ _)))
theorem en_s_lor (X : en_Fx p R s m args c cc own nL h bu0 A cd D cs sc) {a b : Int} (hdg : decode cc pc = .ok (.lor, 1)) (hk : ∀ ls st M bu, k ls st M bu → en_At p l e R s m args below meth c Q nL A cd D cs ad0 M0 sc.1 bu0 (pc + 1) ls st M bu) (hs : k ls (.inr (.inl (en_lor a b)) :: r) M bu) : en_At p l e R s m args below meth c Q nL A cd D cs ad0 M0 sc.1 bu0 pc ls (.inr (.inl b) :: .inr (.inl a) :: r) M bu := by
  intro hb ad H locs lsA I
  have hh := hk _ _ _ _ hs hb ad H locs lsA (I.tl.tl.pu (en_okL _ _ _))
  refine lv_lor X.1 X.2.1 hdg ?_
  rw [List.map_cons, show en_rv ad cd (.inr (.inl (en_lor a b))) = .long (Int64.ofInt a ||| Int64.ofInt b) from congrArg Value.long (Int64.ofInt_toInt _)] at hh
  exact hh
theorem en_s_land (X : en_Fx p R s m args c cc own nL h bu0 A cd D cs sc) {a b : Int} (hdg : decode cc pc = .ok (.land, 1)) (hk : ∀ ls st M bu, k ls st M bu → en_At p l e R s m args below meth c Q nL A cd D cs ad0 M0 sc.1 bu0 (pc + 1) ls st M bu) (hs : k ls (.inr (.inl (en_land a b)) :: r) M bu) : en_At p l e R s m args below meth c Q nL A cd D cs ad0 M0 sc.1 bu0 pc ls (.inr (.inl b) :: .inr (.inl a) :: r) M bu := by
  intro hb ad H locs lsA I
  have hh := hk _ _ _ _ hs hb ad H locs lsA (I.tl.tl.pu (en_okL _ _ _))
  refine lv_land X.1 X.2.1 hdg ?_
  rw [List.map_cons, show en_rv ad cd (.inr (.inl (en_land a b))) = .long (Int64.ofInt a &&& Int64.ofInt b) from congrArg Value.long (Int64.ofInt_toInt _)] at hh
  exact hh
theorem en_s_lcmp (X : en_Fx p R s m args c cc own nL h bu0 A cd D cs sc) {a b : Int} (hdg : decode cc pc = .ok (.lcmp, 1)) (hk : ∀ ls st M bu, k ls st M bu → en_At p l e R s m args below meth c Q nL A cd D cs ad0 M0 sc.1 bu0 (pc + 1) ls st M bu) (hs : k ls (.inl (en_lcmp a b) :: r) M bu) : en_At p l e R s m args below meth c Q nL A cd D cs ad0 M0 sc.1 bu0 pc ls (.inr (.inl b) :: .inr (.inl a) :: r) M bu := by
  intro hb ad H locs lsA I
  have hh := hk _ _ _ _ hs hb ad H locs lsA (I.tl.tl.pu (en_okI _ _ _))
  refine W.lcmp X.1 X.2.1 hdg ?_
  rw [List.map_cons, show en_rv ad cd (.inl (en_lcmp a b)) = .int (lg_cmp (Int64.ofInt a) (Int64.ofInt b)) from congrArg Value.int (by
    unfold en_lcmp lg_cmp en_wl
    by_cases h1 : Int64.ofInt b < Int64.ofInt a
    · rw [if_pos h1, if_pos (Int64.lt_iff_toInt_lt.mp h1)]; rfl
    · rw [if_neg h1, if_neg (fun q => h1 (Int64.lt_iff_toInt_lt.mpr q))]
      by_cases h2 : Int64.ofInt a = Int64.ofInt b
      · rw [if_pos h2, if_pos (by rw [h2])]; rfl
      · rw [if_neg h2, if_neg (fun q => h2 (Int64.toInt.inj q))]; rfl)] at hh
  exact hh
end EN1
