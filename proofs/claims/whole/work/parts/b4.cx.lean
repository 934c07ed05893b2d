/-! constructors: the steps that they are made of -/
def cx_F (p : Program) (s : State) (m : MethodId) (args : Array Value) (c : Code) (cc : ByteArray) (own : String) (nL : Nat) (A : Nat → Prop) (D : va_G) (cs : Nat → ClassId) : Prop :=
  p.tables.exec = Jvm.exec ∧ c.code = cc ∧ c.maxLocals = nL ∧ s.vm.findClass own = some m.cls ∧ (∀ w ∈ en_gw, w.before args s = true) ∧ va_K D vwCl (en_tys cs) s ∧ ∀ q : Nat, s.heap.size ≤ q → A q
def cx_W (p : Program) (l : Launch) (e : Env) (R : Room) (s : State) (m : MethodId) (args : Array Value) (below : List Frame) (meth : Method) (c : Code) (A : Nat → Prop) (D : va_G) (Q : State → Prop) (lsA : Array Slot) (h0 ci : Nat) (cells slots pc : Nat) (fs : List Value) (ws : va_W) (st : List Value) : Prop :=
  ∀ (H : Heap) (locs : List Loc), va_P D vwCl ((h0, .inr (ci, fs)) :: ws) H → va_D A ((h0, .inr (ci, fs)) :: ws) → va_S A s.heap H locs → W p l e R s m args below meth c H locs cells slots Q (F0 m pc lsA st)
section CX
variable {p : Program} {l : Launch} {e : Env} {R : Room} {s : State} {m : MethodId} {args : Array Value} {below : List Frame} {meth : Method} {c : Code} {cc : ByteArray} {own : String} {nL : Nat} {A : Nat → Prop} {D : va_G} {cs : Nat → ClassId} {Q : State → Prop} {lsA : Array Slot} {h0 ci cells slots pc pc' cells' slots' : Nat} {fs : List Value} {ws : va_W} {st : List Value}
theorem cx_aload (X : cx_F p s m args c cc own nL A D cs) (hpc : pc + 1 = pc') (hl0 : lsA[0]? = some (.val (.ref h0))) (hdg : decode cc pc = .ok (.aload_n 0, 1)) (kk : cx_W p l e R s m args below meth c A D Q lsA h0 ci cells slots pc' fs ws (.ref h0 :: st)) : cx_W p l e R s m args below meth c A D Q lsA h0 ci cells slots pc fs ws st := by
  subst hpc
  exact fun H locs hP hD hS => lv_aload_n X.1 X.2.1 hdg rfl hl0 (kk H locs hP hD hS)
theorem cx_iconst (X : cx_F p s m args c cc own nL A D cs) {n : Int} (hpc : pc + 1 = pc') (hdg : decode cc pc = .ok (.iconst n, 1)) (kk : cx_W p l e R s m args below meth c A D Q lsA h0 ci cells slots pc' fs ws (.int (Int32.ofInt n) :: st)) : cx_W p l e R s m args below meth c A D Q lsA h0 ci cells slots pc fs ws st := by
  subst hpc
  exact fun H locs hP hD hS => lv_iconst X.1 X.2.1 hdg rfl (kk H locs hP hD hS)
theorem cx_bipush (X : cx_F p s m args c cc own nL A D cs) {n : Int} (hpc : pc + 2 = pc') (hn : (Int8.ofInt n).toInt32 = Int32.ofInt n) (hdg : decode cc pc = .ok (.bipush n, 2)) (kk : cx_W p l e R s m args below meth c A D Q lsA h0 ci cells slots pc' fs ws (.int (Int32.ofInt n) :: st)) : cx_W p l e R s m args below meth c A D Q lsA h0 ci cells slots pc fs ws st := by
  subst hpc
  exact fun H locs hP hD hS => lv_bipush X.1 X.2.1 hdg hn (kk H locs hP hD hS)
theorem cx_sipush (X : cx_F p s m args c cc own nL A D cs) {n : Int} (hpc : pc + 3 = pc') (hn : (Int16.ofInt n).toInt32 = Int32.ofInt n) (hdg : decode cc pc = .ok (.sipush n, 3)) (kk : cx_W p l e R s m args below meth c A D Q lsA h0 ci cells slots pc' fs ws (.int (Int32.ofInt n) :: st)) : cx_W p l e R s m args below meth c A D Q lsA h0 ci cells slots pc fs ws st := by
  subst hpc
  exact fun H locs hP hD hS => lv_sipush X.1 X.2.1 hdg hn (kk H locs hP hD hS)
theorem cx_dup (X : cx_F p s m args c cc own nL A D cs) {v : Value} (hpc : pc + 1 = pc') (hv : v.category = 1) (hdg : decode cc pc = .ok (.dup, 1)) (kk : cx_W p l e R s m args below meth c A D Q lsA h0 ci cells slots pc' fs ws (v :: v :: st)) : cx_W p l e R s m args below meth c A D Q lsA h0 ci cells slots pc fs ws (v :: st) := by
  subst hpc
  exact fun H locs hP hD hS => lv_dup X.1 X.2.1 hdg hv (kk H locs hP hD hS)
theorem cx_put (X : cx_F p s m args c cc own nL A D cs) {k i : Nat} {v : Value} {ty : FieldType} {r : vw_C} {fs' : List Value} (hpc : pc + 3 = pc') (hq : vwCl[ci]? = some r) (hk : k < r.2.2) (hl : Cond.fieldLink own i (r.2.1 k).1 (r.2.1 k).2.1 (r.2.1 k).2.2.1 ∈ en_gw) (hfin : (r.2.1 k).2.2.2 = false) (hd : parseFieldDescriptor (r.2.1 k).2.2.1 = some ty) (hn : narrow ty v = v) (hfit : fits ty v = true) (hlen : k < fs.length) (hfs : fs.set k v = fs') (hdg : decode cc pc = .ok (.putfield i, 3)) (kk : cx_W p l e R s m args below meth c A D Q lsA h0 ci cells slots pc' fs' ws st) : cx_W p l e R s m args below meth c A D Q lsA h0 ci cells slots pc fs ws (v :: .ref h0 :: st) := by
  subst hpc
  subst hfs
  intro H locs hP hD hS
  obtain ⟨ty0, hty, hnm⟩ := en_ty hq
  exact va_put (C := r.1) (T := r.2.1) (N := r.2.2) (ci := ci) (ty := ty) X.1 X.2.1 X.2.2.2.2.1 (en_uw hq) ty0 hty hnm X.2.2.2.1 X.2.2.2.2.2.1 hP hD hS 0 rfl hq k hk (X.2.2.2.2.1 _ hl) (fun _ z => z) hfin hd hn hfit hlen hdg (fun H1 locs1 hP1 hD1 hS1 => kk H1 locs1 hP1 hD1 hS1)
theorem cx_putF (X : cx_F p s m args c cc own nL A D cs) (hin : meth.name = "<init>") {k i : Nat} {v : Value} {ty : FieldType} {r : vw_C} {fs' : List Value} (hpc : pc + 3 = pc') (hq : vwCl[ci]? = some r) (hk : k < r.2.2) (hl : Cond.fieldLink own i (r.2.1 k).1 (r.2.1 k).2.1 (r.2.1 k).2.2.1 ∈ en_gw) (hfin : (r.2.1 k).2.2.2 = true) (hdecl : (r.2.1 k).1 = own) (hd : parseFieldDescriptor (r.2.1 k).2.2.1 = some ty) (hn : narrow ty v = v) (hfit : fits ty v = true) (hlen : k < fs.length) (hfs : fs.set k v = fs') (hdg : decode cc pc = .ok (.putfield i, 3)) (kk : cx_W p l e R s m args below meth c A D Q lsA h0 ci cells slots pc' fs' ws st) : cx_W p l e R s m args below meth c A D Q lsA h0 ci cells slots pc fs ws (v :: .ref h0 :: st) := by
  subst hpc
  subst hfs
  intro H locs hP hD hS
  obtain ⟨ty0, hty, hnm⟩ := en_ty hq
  exact va_putF (C := r.1) (T := r.2.1) (N := r.2.2) (ci := ci) (ty := ty) X.1 X.2.1 X.2.2.2.2.1 (en_uw hq) ty0 hty hnm X.2.2.2.1 X.2.2.2.2.2.1 hP hD hS 0 rfl hq k hk (X.2.2.2.2.1 _ hl) (fun _ z => z) hfin hin hdecl hd hn hfit hlen hdg (fun H1 locs1 hP1 hD1 hS1 => kk H1 locs1 hP1 hD1 hS1)
/-- the array classes are told by their names -/
theorem cx_same {tys : List (ClassId × FieldType)} {k t : Nat} {cA cB : ClassId} {ty : FieldType} (hK : va_K D vwCl tys s) (hk : tys[k]? = some (cA, ty)) (hK2 : va_K D vwCl (en_tys cs) s) (ht : (en_tys cs)[t]? = some (cB, ty)) (hra : ∀ c, va_RA s c ty → s.vm.findClass ("[" ++ ty.toString) = some c) : cA = cB :=
  Option.some.inj ((hra _ (hK.2 k _ hk).2).symm.trans (hra _ (hK2.2 t _ ht).2))
theorem cx_newa (X : cx_F p s m args c cc own nL A D cs) {atype : ArrayType} {ty : FieldType} {t N : Nat} {n : Int32} {a0 : vp_A} (hpc : pc + 2 = pc') (hce : cells + 1 = cells') (hsl : slots + N = slots') (harr : Cond.arrayClass (newarray.typeOf atype) ∈ en_gw) (hty : newarray.typeOf atype = ty) (ht : (en_tys cs)[t]? = some (cs t, ty)) (hra : ∀ c, va_RA s c ty → s.vm.findClass ("[" ++ ty.toString) = some c) (ha : ∀ cA : ClassId, vp_cell cA a0 = arrV cA N (fun _ => defaultValue ty)) (hn : ¬ n < 0) (hN : n.toNatClampNeg = N) (hbytes : N * componentBytes ty ≤ 536870912) (hcells : cells' ≤ R.cells) (hslots : slots' ≤ R.slots) (hdg : decode cc pc = .ok (.newarray atype, 2))
    (kk : ∀ q : Nat, cx_W p l e R s m args below meth c A D Q lsA h0 ci cells' slots' pc' fs (ws ++ [(q, .inl (cs t, a0))]) (.ref q :: st)) : cx_W p l e R s m args below meth c A D Q lsA h0 ci cells slots pc fs ws (.int n :: st) := by
  subst hpc
  subst hce
  subst hsl
  intro H locs hP hD hS
  refine va_newa X.1 X.2.1 (X.2.2.2.2.1 _ harr) hty X.2.2.2.2.2.1 hP hD hS X.2.2.2.2.2.2 ha hn hN hbytes hcells hslots hdg (fun q cA H1 hK1 hP1 hD1 hS1 => ?_)
  have e : cA = cs t := cx_same (k := (en_tys cs).length) hK1 (by rw [List.getElem?_append_right (Nat.le_refl _), Nat.sub_self]; rfl) X.2.2.2.2.2.1 ht hra
  subst e
  exact kk q H1 locs hP1 hD1 hS1
theorem cx_mna (X : cx_F p s m args c cc own nL A D cs) {i : Nat} {ty : FieldType} {t t2 N K : Nat} {n k : Int32} {z : vp_A} (hpc : pc + 4 = pc') (hce : cells + 1 + N = cells') (hsl : slots + N + N * K = slots') (hcl : Cond.classLink own i ("[" ++ (FieldType.array ty).toString) ∈ en_gw) (hover : va_AOA ty s) (harr : Cond.arrayClass ty ∈ en_gw) (ht : (en_tys cs)[t]? = some (cs t, ty)) (hra : ∀ c, va_RA s c ty → s.vm.findClass (FieldType.array ty).toString = some c) (ht2 : (en_tys cs)[t2]? = some (cs t2, .array ty))
    (hn : ¬ n < 0) (hk : ¬ k < 0) (hN : n.toNatClampNeg = N) (hM : k.toNatClampNeg = K) (hb1 : N * 4 ≤ 536870912) (hb2 : K * componentBytes ty ≤ 536870912) (hb3 : K ≤ 536870912) (hdf : fits ty (defaultValue ty) = true) (hdd : (defaultValue ty).isDefault = true) (hcells : cells' ≤ R.cells) (hslots : slots' ≤ R.slots) (hz : ∀ c : ClassId, Jvm.Free.Multi.innerC c K (defaultValue ty) = vp_cell c z) (hdg : decode cc pc = .ok (.multianewarray i 2, 4))
    (kk : ∀ (q : Nat) (r : Nat → Nat), cx_W p l e R s m args below meth c A D Q lsA h0 ci cells' slots' pc' fs (ws ++ ((q, .inl (cs t2, N, .inr (.inr (.inr (.inr (fun j => if j < N then some (r j) else none)))))) :: (List.range N).map (fun j => (r j, .inl (cs t, z))))) (.ref q :: st)) : cx_W p l e R s m args below meth c A D Q lsA h0 ci cells slots pc fs ws (.int k :: .int n :: st) := by
  subst hpc
  subst hce
  subst hsl
  intro H locs hP hD hS
  have e0 : va_pl [] (fun _ => (.inl (cs t, z) : va_E)) = [] := rfl
  refine va_mna (X := (h0, .inr (ci, fs)) :: ws) (L := []) (f := fun _ => .inl (cs t, z)) (cy := cs t) (z := z) X.1 X.2.1 X.2.2.2.1 (X.2.2.2.2.1 _ hcl) hover (X.2.2.2.2.1 _ harr) (hra _ (X.2.2.2.2.2.1.2 t _ ht).2) X.2.2.2.2.2.1 (by rw [e0, List.append_nil]; exact hP) (by rw [e0, List.append_nil]; exact hD) hS X.2.2.2.2.2.2 hn hk hN hM hb1 hb2 hb3 hdf hdd (by omega) (by omega) hz hdg (fun q r cA H1 _ _ hK1 hP1 hD1 hS1 => ?_)
  have e : cA = cs t2 := cx_same (k := (en_tys cs).length) hK1 (by rw [List.getElem?_append_right (Nat.le_refl _), Nat.sub_self]; rfl) X.2.2.2.2.2.1 ht2 (fun _ z => z)
  subst e
  have e1 : (((h0, .inr (ci, fs)) :: ws ++ [(q, .inl (cs t2, N, .inr (.inr (.inr (.inr (fun j => if j < N then some (r j) else none))))))]) ++ va_pl ([] ++ (List.range N).map r) (vr_up (fun _ => (.inl (cs t, z) : va_E)) ((List.range N).map r) (.inl (cs t, z))) : va_W) = (h0, .inr (ci, fs)) :: (ws ++ ((q, .inl (cs t2, N, .inr (.inr (.inr (.inr (fun j => if j < N then some (r j) else none)))))) :: (List.range N).map (fun j => (r j, .inl (cs t, z))))) := by
    have e2 : va_pl ([] ++ (List.range N).map r) (vr_up (fun _ => (.inl (cs t, z) : va_E)) ((List.range N).map r) (.inl (cs t, z))) = (List.range N).map (fun j => (r j, .inl (cs t, z))) := by
      unfold va_pl
      rw [List.nil_append, List.map_map]
      apply List.map_congr_left
      intro j hj
      show (r j, vr_up _ _ _ (r j)) = _
      rw [vr_up_in (List.mem_map_of_mem hj)]
    rw [e2]
    simp
  rw [e1] at hP1 hD1
  exact kk q r H1 locs hP1 hD1 hS1
/-- the last cell's place -/
theorem cx_at {x y : Nat × va_E} : (y :: (ws ++ [x]))[ws.length + 1]? = some x := by
  rw [List.getElem?_cons_succ, List.getElem?_append_right (Nat.le_refl _), Nat.sub_self]
  rfl
theorem cx_set {x x' y : Nat × va_E} : (y :: (ws ++ [x])).set (ws.length + 1) x' = y :: (ws ++ [x']) := by
  rw [List.set_cons_succ, List.set_append_right _ _ (Nat.le_refl _), Nat.sub_self]
  rfl
theorem cx_iast (X : cx_F p s m args c cc own nL A D cs) {q n : Nat} {f : Nat → Int32} {i x : Int32} (hpc : pc + 1 = pc') (hin : vp_in i n) (hdg : decode cc pc = .ok (.iastore, 1)) (kk : cx_W p l e R s m args below meth c A D Q lsA h0 ci cells slots pc' fs (ws ++ [(q, .inl (cs 0, n, .inl (upd f i.toNatClampNeg x)))]) st) : cx_W p l e R s m args below meth c A D Q lsA h0 ci cells slots pc fs (ws ++ [(q, .inl (cs 0, n, .inl f))]) (.int x :: .int i :: .ref q :: st) := by
  subst hpc
  intro H locs hP hD hS
  refine va_iast X.1 X.2.1 X.2.2.2.2.2.1 hP hD hS (ws.length + 1) 0 cx_at rfl hin hdg (fun H1 locs1 hP1 hD1 hS1 => ?_)
  rw [cx_set] at hP1 hD1
  exact kk H1 locs1 hP1 hD1 hS1
theorem cx_last {q n : Nat} {f f' : Nat → Int32} (hf : f = f') (kk : cx_W p l e R s m args below meth c A D Q lsA h0 ci cells slots pc fs (ws ++ [(q, .inl (cs 0, n, .inl f'))]) st) : cx_W p l e R s m args below meth c A D Q lsA h0 ci cells slots pc fs (ws ++ [(q, .inl (cs 0, n, .inl f))]) st := by
  subst hf
  exact kk
theorem cx_obj (X : cx_F p s m args c cc own nL A D cs) {i : Nat} (hpc : pc + 3 = pc') (hsz : lsA.size = nL) (hl : Cond.methodLink own i objectInit ∈ en_gw) (hin : Cond.instanceMethod objectInit ∈ en_gw) (hco : Cond.code objectInit ⟨#[0xb1]⟩ 1 none ∈ en_gw) (hfr : 1 ≤ R.frames) (hlo : 12 ≤ R.locals) (hdg : decode cc pc = .ok (.invokespecial i, 3)) (kk : cx_W p l e R s m args below meth c A D Q lsA h0 ci cells slots pc' fs ws []) : cx_W p l e R s m args below meth c A D Q lsA h0 ci cells slots pc fs ws [.ref h0] := by
  subst hpc
  intro H locs hP hD hS
  refine W.objInit X.1 X.2.1 X.2.2.2.1 (X.2.2.2.2.1 _ hl) (X.2.2.2.2.1 _ hin) (X.2.2.2.2.1 _ hco) rfl (by rw [X.2.2.1]; exact hsz) rfl hdg hfr (by simpa using hlo) ?_
  exact kk H locs hP hD hS
end CX
/-- no numbers yet -/
theorem cx_zi {n : Nat} {g : Nat → Int} (h : ∀ j, g j = 0) (cA : ClassId) : vp_cell cA (n, .inl (fun j => Int32.ofInt (g j))) = arrV cA n (fun _ => defaultValue .int) := by
  rw [vp_cell_i]
  refine congrArg (arrV cA n) (funext fun j => ?_)
  rw [h j]
  rfl
theorem cx_zb {n : Nat} {g : Nat → Int} (h : ∀ j, g j = 0) (cA : ClassId) : vp_cell cA (n, .inl (fun j => Int32.ofInt (g j))) = arrV cA n (fun _ => defaultValue .boolean) := by
  rw [vp_cell_i]
  refine congrArg (arrV cA n) (funext fun j => ?_)
  rw [h j]
  rfl
theorem cx_zl {n : Nat} {g : Nat → Int} (h : ∀ j, g j = 0) (cA : ClassId) : vp_cell cA (n, .inr (.inl (fun j => Int64.ofInt (g j)))) = arrV cA n (fun _ => defaultValue .long) := by
  rw [vp_cell_l]
  refine congrArg (arrV cA n) (funext fun j => ?_)
  rw [h j]
  rfl
theorem cx_mi {n : Nat} {g : Nat → Int} (h : ∀ j, g j = 0) (cA : ClassId) : Jvm.Free.Multi.innerC cA n (defaultValue .int) = vp_cell cA (n, .inl (fun j => Int32.ofInt (g j))) := by
  rw [cx_zi h]
  exact arrV_new cA n _
theorem cx_ml {n : Nat} {g : Nat → Int} (h : ∀ j, g j = 0) (cA : ClassId) : Jvm.Free.Multi.innerC cA n (defaultValue .long) = vp_cell cA (n, .inr (.inl (fun j => Int64.ofInt (g j)))) := by
  rw [cx_zl h]
  exact arrV_new cA n _
/-- the first memory -/
def cx_af : List Int := [0, 4, 180, 20, 10, 5, 0, 0]
def cx_M1 (a j : Nat) : Int :=
  if a = 1 ∨ a = 17 ∨ a = 33 then (if j = 0 then 4 else if j = 3 then 1 else 0)
  else if a = 2 ∨ a = 18 ∨ a = 34 then cx_af.getD j 0
  else if a = 49 then (if j = 1 then -1 else 0)
  else if a = 52 then (if j = 3 then 1 else 0)
  else if a = 68 ∨ a = 70 ∨ a = 72 ∨ a = 74 ∨ a = 76 ∨ a = 78 ∨ a = 80 ∨ a = 82 then (if j = 0 then -1 else if j = 2 then -1 else 0)
  else if a = 84 then (if j = 9 then 4 else if j = 23 then 1 else 0)
  else if a = 115 then cx_af.getD j 0
  else 0
def cx_M : Mm := (cx_M1, fun _ _ => 0)
/-- a block of cells, from place b on -/
def cx_blk (cs : Nat → ClassId) (b n : Nat) (q : Nat → Nat) : va_W := (List.range n).map (fun i => (q i, en_cell (fun a => q (a - b)) cs cx_M (b + i)))
def cx_ty (T : u_T) (k : Nat) : FieldType := (parseFieldDescriptor (T k).2.2.1).getD .int
/-- a constructor's contract -/
def cx_Ct (l : Launch) (y : MethodName) (code : ByteArray) (nL ci b n fr lo cells slots : Nat) (fs0 : List Value) (ex : (Nat → Prop) → State → Prop) : Prop :=
  ∀ (D : va_G) (cs : Nat → ClassId) (h0 sz : Nat), Met l y (Cond.code y code nL none :: en_gw) { frames := fr, cells := cells, slots := slots, locals := lo } (va_Pc [.ref h0] (fun U => U.heap.size = sz ∧ va_P D vwCl [(h0, .inr (ci, fs0))] U.heap ∧ va_K D vwCl (en_tys cs) U ∧ va_D (fun _ => True) [(h0, .inr (ci, fs0))] ∧ ex (va_A [(h0, .inr (ci, fs0))] sz) U))
    (va_Qv (fun q : Nat → Nat => q 0 = h0) (fun q t => va_P D vwCl (cx_blk cs b n q) t.heap ∧ va_D (va_A [(h0, .inr (ci, fs0))] sz) (cx_blk cs b n q)) (va_A [(h0, .inr (ci, fs0))] sz)) cells slots (va_A [(h0, .inr (ci, fs0))] sz)
/-- behind a call that made a block: the rest, and the block -/
theorem cx_join {A : Nat → Prop} {D : va_G} {ws w1 : va_W} {x : Nat × va_E} {H H1 : Heap} (hP : va_P D vwCl (ws ++ [x]) H) (hD : va_D A (ws ++ [x])) (hk : ∀ q : Nat, q < H.size → ¬ va_A [x] H.size q → H1[q]? = H[q]?) (hF : ∀ q, va_A [x] H.size q → A q) (hP1 : va_P D vwCl w1 H1) (hD1 : va_D (va_A [x] H.size) w1) : va_P D vwCl (ws ++ w1) H1 ∧ va_D A (ws ++ w1) := by
  have hat : ∀ (k : Nat) (q : Nat × va_E), ws[k]? = some q → (ws ++ [x])[k]? = some q := fun k q hq => by
    rw [List.getElem?_append_left (List.getElem?_eq_some_iff.mp hq).1]
    exact hq
  have hlast : (ws ++ [x])[ws.length]? = some x := by
    rw [List.getElem?_append_right (Nat.le_refl _), Nat.sub_self]
    rfl
  have apart : ∀ (k : Nat) (q : Nat × va_E), ws[k]? = some q → q.1 < H.size ∧ ¬ va_A [x] H.size q.1 := by
    intro k q hq
    have hl := (hP k q (hat k q hq)).lt
    refine ⟨hl, fun h => ?_⟩
    rcases h with ⟨j, e, h⟩ | h
    · have hj : j < 1 := (List.getElem?_eq_some_iff.mp h).1
      rw [show j = 0 by omega] at h
      have hx : x = (q.1, e) := Option.some.inj h
      have := hD.1 k ws.length q x (hat k q hq) hlast (by rw [hx])
      have h2 := (List.getElem?_eq_some_iff.mp hq).1
      omega
    · omega
  have hDw : va_D A ws := ⟨fun i j a b hi hj h => hD.1 i j a b (hat i a hi) (hat j b hj) h, fun k q hq => hD.2 k q (hat k q hq)⟩
  refine ⟨va_P.app (fun k q hq => ?_) hP1, va_D.app hDw (hD1.weaken (fun _ q _ h => hF q.1 h)) (fun i j a b ha hb hab => ?_)⟩
  · obtain ⟨g1, g2⟩ := apart k q hq
    exact (hP k q (hat k q hq)).kept (hk q.1 g1 g2)
  · exact (apart i a ha).2 (by rw [hab]; exact hD1.2 j b hb)
theorem cx_goodw {y : MethodName} {code : ByteArray} {n : Nat} (h : Cond.code y code n none ∈ en_gw) : GoodIn en_gw (Cond.code y code n none :: en_gw) := by
  intro w hw
  rcases List.mem_cons.mp hw with rfl | hw
  · exact ⟨h, good_of_word (List.mem_filter.mp h).2⟩
  · exact ⟨hw, good_of_word (List.mem_filter.mp hw).2⟩
section CM
variable {p : Program} {l : Launch} {e : Env} {R : Room} {s : State} {m : MethodId} {args : Array Value} {below : List Frame} {meth : Method} {c : Code} {cc : ByteArray} {own : String} {nL : Nat} {A : Nat → Prop} {D : va_G} {cs : Nat → ClassId} {Q : State → Prop} {lsA : Array Slot} {cells slots pc pc' : Nat} {L : va_W} {st : List Value} {H : Heap} {locs : List Loc}
/-- what a making asks -/
def cx_Mk (l : Launch) (R : Room) (s : State) (own : String) (cs : Nat → ClassId) (A : Nat → Prop) (cc : ByteArray) (pc i i2 cj : Nat) (r : vw_C) (y : MethodName) (code : ByteArray) (nLc b n fr lo mc ms : Nat) (fs0 : List Value) (ex : (Nat → Prop) → State → Prop) : Prop :=
  (vwCl[cj]? = some r ∧ Cond.classLink own i r.1 ∈ en_gw ∧ Cond.instantiable r.1 r.2.2 ∈ en_gw ∧ Cond.initialized r.1 ∈ en_gw) ∧ ((∀ k, k < r.2.2 → parseFieldDescriptor (r.2.1 k).2.2.1 = some (cx_ty r.2.1 k)) ∧ ∀ k, k < r.2.2 → defaultValue (cx_ty r.2.1 k) = vp_V fs0 k) ∧ cx_Ct l y code nLc cj b n fr lo mc ms fs0 ex ∧
  (Cond.code y code nLc none ∈ en_gw ∧ Cond.instanceMethod y ∈ en_gw ∧ Cond.initialized y.cls ∈ en_gw ∧ y.name = "<init>" ∧ y.cls ≠ "java/lang/invoke/MethodHandle" ∧ y.cls ≠ "java/lang/invoke/VarHandle" ∧ (parseMethodDescriptor y.desc).map (fun d => d.parameters.length) = some 0) ∧
  (fr + 1 ≤ R.frames ∧ 8 + (nLc + 11) + lo ≤ R.locals) ∧ ((∀ (A' : Nat → Prop) (a : Array Value) (U : State) (g : JFrame) (mk : MethodId), ex A' U → ex A' (U.calling g mk a)) ∧ ∀ (A' : Nat → Prop) (U : State), s.WarmedH U.vm → (∀ q, A' q → A q) → (∀ a : Nat, a < s.heap.size → ¬ A a → U.heap[a]? = s.heap[a]?) → ex A' U) ∧
  (decode cc pc = .ok (.new i, 3) ∧ decode cc (pc + 3) = .ok (.dup, 1) ∧ decode cc (pc + 4) = .ok (.invokespecial i2, 3))
theorem cx_mk (X : cx_F p s m args c cc own nL A D cs) {i i2 cj nLc b n fr lo mc ms : Nat} {r : vw_C} {y : MethodName} {code : ByteArray} {fs0 : List Value} {ex : (Nat → Prop) → State → Prop} (K : cx_Mk l R s own cs A cc pc i i2 cj r y code nLc b n fr lo mc ms fs0 ex) (hpc : pc + 7 = pc') (hsz : lsA.size = nL)
    (hlink : va_Nw (.methodLinkNest own i2 y "TownRiverBeast") s ∨ Cond.methodLink own i2 y ∈ en_gw) (hst : 1 + (st.map fun v => v.category).sum ≤ 8) (hcells : cells + 1 + mc ≤ R.cells) (hslots : slots + r.2.2 + ms ≤ R.slots)
    (hP : va_P D vwCl L H) (hD : va_D A L) (hS : va_S A s.heap H locs)
    (kk : ∀ (q : Nat → Nat) (H1 : Heap) (locs1 : List Loc), va_P D vwCl (L ++ cx_blk cs b n q) H1 → va_D A (L ++ cx_blk cs b n q) → va_S A s.heap H1 locs1 → W p l e R s m args below meth c H1 locs1 (cells + 1 + mc) (slots + r.2.2 + ms) Q (F0 m pc' lsA (.ref (q 0) :: st))) : W p l e R s m args below meth c H locs cells slots Q (F0 m pc lsA st) := by
  subst hpc
  obtain ⟨⟨k1, k2, k3, k4⟩, ⟨k5, k6⟩, hM, ⟨k7, k8, k9, k10, k11⟩, hR, ⟨k12, k13⟩, k14, k15, k16⟩ := K
  refine va_new (ci := cj) (fs := fs0) (C := r.1) (T := r.2.1) (N := r.2.2) X.1 X.2.1 X.2.2.2.2.1 (en_uw k1) (cx_ty r.2.1) k5 X.2.2.2.1 (X.2.2.2.2.1 _ k2) (X.2.2.2.2.1 _ k3) (X.2.2.2.2.1 _ k4) X.2.2.2.2.2.1 hP hD hS X.2.2.2.2.2.2 k1 k6 (by omega) (by omega) k14 (fun q H1 hP1 hD1 hS1 => ?_)
  refine lv_dup X.1 X.2.1 k15 rfl ?_
  have hlast : (L ++ [(q, .inr (cj, fs0))])[L.length]? = some (q, .inr (cj, fs0)) := by
    rw [List.getElem?_append_right (Nat.le_refl _), Nat.sub_self]
    rfl
  have hPc : va_P D vwCl [(q, .inr (cj, fs0))] H1 := fun k x hx => by
    have hz : k < 1 := (List.getElem?_eq_some_iff.mp hx).1
    rw [show k = 0 by omega] at hx
    cases hx
    exact hP1 _ _ hlast
  have hDc : va_D (fun _ => True) [(q, .inr (cj, fs0))] := ⟨fun i j a b hi hj _ => by
    have h1 : i < 1 := (List.getElem?_eq_some_iff.mp hi).1
    have h2 : j < 1 := (List.getElem?_eq_some_iff.mp hj).1
    omega, fun _ _ _ => trivial⟩
  have hFc : ∀ z, va_A [(q, .inr (cj, fs0))] H1.size z → A z := va_free (wc := [(q, .inr (cj, fs0))]) hD1 hS1 X.2.2.2.2.2.2 [L.length] (by rw [List.map_cons, hlast]; rfl)
  have hpre : PreS s H1 (va_Pc [.ref q] (fun U => U.heap.size = H1.size ∧ va_P D vwCl [(q, .inr (cj, fs0))] U.heap ∧ va_K D vwCl (en_tys cs) U ∧ va_D (fun _ => True) [(q, .inr (cj, fs0))] ∧ ex (va_A [(q, .inr (cj, fs0))] H1.size) U)) (.ref q :: []) :=
    ⟨fun a U g mk z => by
      obtain ⟨q0, q1, qP, qK, qD, qE⟩ := z
      exact ⟨q0, q1, qP, va_K.moved (u := U) (U := U.calling g mk a) (Vm.Alike.refl U.vm) qK, qD, k12 _ a U g mk qE⟩, fun U hU hW => ⟨rfl, by rw [hU], by rw [hU]; exact hPc, va_K.moved hW.alike X.2.2.2.2.2.1, hDc, k13 _ U hW hFc (fun a h1 h2 => by rw [hU]; exact hS1.2.1 a h1 h2)⟩⟩
  have hrun : va_Run p l e R s m args below meth c H1 locs (cells + 1) (slots + r.2.2) mc ms (F0 m (pc + 3 + 1) lsA (.ref q :: .ref q :: st)) (.ref q :: st) (va_Qv (fun u : Nat → Nat => u 0 = q) (fun u t => va_P D vwCl (cx_blk cs b n u) t.heap ∧ va_D (va_A [(q, .inr (cj, fs0))] H1.size) (cx_blk cs b n u)) (va_A [(q, .inr (cj, fs0))] H1.size) (Value.ref q :: []).toArray) (va_A [(q, .inr (cj, fs0))] H1.size) := by
    have hW : 2 * (F0 m (pc + 3 + 1) lsA (.ref q :: .ref q :: st)).monitorRoom + ((.ref q :: st : List Value).map fun v => v.category).sum ≤ 8 := lv_room (by
      rw [List.map_cons, List.sum_cons]
      exact hst)
    rcases hlink with hl | hl
    · exact va_runIN (As := []) (b := q) ⟨X.1, X.2.1, X.2.2.1, X.2.2.2.1, X.2.2.2.2.1⟩ (hM D cs q H1.size) ⟨va_cnB 0 X.2.2.2.2.1 (cx_goodw k7) rfl rfl rfl hl (X.2.2.2.2.1 _ k9) k11 hR, k10, X.2.2.2.2.1 _ k8⟩ hpre rfl rfl hsz rfl hW k16 ⟨hcells, hslots⟩
    · exact va_runI (As := []) (b := q) ⟨X.1, X.2.1, X.2.2.1, X.2.2.2.1, X.2.2.2.2.1⟩ (hM D cs q H1.size) (cwI 0 X.2.2.2.2.1 (cx_goodw k7) rfl rfl rfl (X.2.2.2.2.1 _ k9) (X.2.2.2.2.1 _ hl) (X.2.2.2.2.1 _ k8) k10 k11 hR) hpre rfl rfl hsz rfl hW k16 ⟨hcells, hslots⟩
  refine va_callv hrun hS1 (fun z _ h => hFc z h) hFc (fun u t H2 locs2 ht hvm hu hB hz1 hk1 hS2 => ?_)
  obtain ⟨hP2, hD2⟩ := hB
  rw [ht] at hP2
  obtain ⟨hP3, hD3⟩ := cx_join hP1 hD1 hk1 hFc hP2 hD2
  have hfin := kk u H2 locs2 hP3 hD3 hS2
  rw [hu] at hfin
  exact hfin
end CM
section CY
variable {p : Program} {l : Launch} {e : Env} {R : Room} {s : State} {m : MethodId} {args : Array Value} {below : List Frame} {meth : Method} {c : Code} {cc : ByteArray} {own : String} {nL : Nat} {A : Nat → Prop} {D : va_G} {cs : Nat → ClassId} {Q : State → Prop} {lsA : Array Slot} {h0 ci cells slots pc pc' cells' slots' : Nat} {fs : List Value} {ws : va_W} {st : List Value}
theorem cx_make (X : cx_F p s m args c cc own nL A D cs) {i i2 cj nLc b n fr lo mc ms : Nat} {r : vw_C} {y : MethodName} {code : ByteArray} {fs0 : List Value} {ex : (Nat → Prop) → State → Prop} (K : cx_Mk l R s own cs A cc pc i i2 cj r y code nLc b n fr lo mc ms fs0 ex) (hpc : pc + 7 = pc') (hce : cells + 1 + mc = cells') (hsl : slots + r.2.2 + ms = slots') (hsz : lsA.size = nL) (hlink : va_Nw (.methodLinkNest own i2 y "TownRiverBeast") s) (hst : 1 + (st.map fun v => v.category).sum ≤ 8) (hcells : cells' ≤ R.cells) (hslots : slots' ≤ R.slots)
    (kk : ∀ q : Nat → Nat, cx_W p l e R s m args below meth c A D Q lsA h0 ci cells' slots' pc' fs (ws ++ cx_blk cs b n q) (.ref (q 0) :: st)) : cx_W p l e R s m args below meth c A D Q lsA h0 ci cells slots pc fs ws st := by
  subst hce
  subst hsl
  intro H locs hP hD hS
  exact cx_mk X K hpc hsz (Or.inl hlink) hst hcells hslots hP hD hS (fun q H1 locs1 hP1 hD1 hS1 => kk q H1 locs1 hP1 hD1 hS1)
theorem cx_newq (X : cx_F p s m args c cc own nL A D cs) {C : String} {i t N : Nat} {n : Int32} (hpc : pc + 3 = pc') (hce : cells + 1 = cells') (hsl : slots + N = slots') (hcl : Cond.classLink own i C ∈ en_gw) (hover : va_AO C s) (ht : (en_tys cs)[t]? = some (cs t, .object C)) (hn : ¬ n < 0) (hN : n.toNatClampNeg = N) (hbytes : N * 4 ≤ 536870912) (hcells : cells' ≤ R.cells) (hslots : slots' ≤ R.slots) (hdg : decode cc pc = .ok (.anewarray i, 3))
    (kk : ∀ q : Nat, cx_W p l e R s m args below meth c A D Q lsA h0 ci cells' slots' pc' fs (ws ++ [(q, .inl (cs t, N, .inr (.inr (.inr (.inr (fun _ => none))))))]) (.ref q :: st)) : cx_W p l e R s m args below meth c A D Q lsA h0 ci cells slots pc fs ws (.int n :: st) := by
  subst hpc
  subst hce
  subst hsl
  intro H locs hP hD hS
  refine va_newq X.1 X.2.1 X.2.2.2.1 (X.2.2.2.2.1 _ hcl) hover X.2.2.2.2.2.1 hP hD hS X.2.2.2.2.2.2 hn hN hbytes hcells hslots hdg (fun q cA H1 hK1 hP1 hD1 hS1 => ?_)
  have e : cA = cs t := by
    obtain ⟨_, _, -, -, -, f1⟩ := (hK1.2 (en_tys cs).length (cA, .object C) (by rw [List.getElem?_append_right (Nat.le_refl _), Nat.sub_self]; rfl)).2
    obtain ⟨_, _, -, -, -, f2⟩ := (X.2.2.2.2.2.1.2 t _ ht).2
    exact Option.some.inj (f1.symm.trans f2)
  subst e
  exact kk q H1 locs hP1 hD1 hS1
/-- the array that is cloned -/
def cx_AF (t : Nat) (A : Nat → Prop) (U : State) (H : Heap) : Prop := ∃ cell : Cell, H[t]? = some cell ∧ (∀ k, cell.vm ≠ .statics k) ∧ cell.vm ≠ .unknown ∧ U.vm.findClass "[I" = some cell.cls ∧ cell.slots.size = 8 ∧ (∀ j : Nat, j < 8 → cell.slots[j]? = some (.int (Int32.ofInt (cx_af.getD j 0)))) ∧ ¬ A t
theorem cx_gets (X : cx_F p s m args c cc own nL A D cs) {i : Nat} {C n d host : String} {v : Value} (hpc : pc + 3 = pc') (hZ : va_Z C n d v A s s.heap) (hl : va_Nw (.fieldLinkNest own i C n d host) s) (hdg : decode cc pc = .ok (.getstatic i, 3)) (kk : cx_W p l e R s m args below meth c A D Q lsA h0 ci cells slots pc' fs ws (v :: st)) : cx_W p l e R s m args below meth c A D Q lsA h0 ci cells slots pc fs ws st := by
  subst hpc
  exact fun H locs hP hD hS => va_getsN X.1 X.2.1 hZ hS X.2.2.2.1 (va_Nw.use rfl hl) (fun _ z => z) hdg (kk H locs hP hD hS)
theorem cx_clone (X : cx_F p s m args c cc own nL A D cs) {i t : Nat} {g : Nat → Int} (hpc : pc + 3 = pc') (hce : cells + 1 = cells') (hsl : slots + 8 = slots') (hsz : lsA.size = nL) (hg : ∀ j, g j = cx_af.getD j 0) (hF : cx_AF t A s s.heap) (hca : va_Nw (.castable "[I" "java/lang/Cloneable") s)
    (hl : Cond.methodLink own i ⟨"[I", "clone", "()Ljava/lang/Object;"⟩ ∈ en_gw) (hsame : Cond.sameMethod "[I" "java/lang/Object" "clone" "()Ljava/lang/Object;" ∈ en_gw) (hnat : Cond.native ⟨"java/lang/Object", "clone", "()Ljava/lang/Object;"⟩ ∈ en_gw) (hinst : Cond.instanceMethod ⟨"java/lang/Object", "clone", "()Ljava/lang/Object;"⟩ ∈ en_gw) (hsel : Cond.selects "[I" ⟨"[I", "clone", "()Ljava/lang/Object;"⟩ ⟨"java/lang/Object", "clone", "()Ljava/lang/Object;"⟩ ∈ en_gw)
    (hfr : 1 ≤ R.frames) (hlo : (st.map fun v => v.category).sum + 14 ≤ R.locals) (hcells : cells' ≤ R.cells) (hslots : slots' ≤ R.slots) (hdg : decode cc pc = .ok (.invokevirtual i, 3))
    (kk : ∀ q : Nat, cx_W p l e R s m args below meth c A D Q lsA h0 ci cells' slots' pc' fs (ws ++ [(q, .inl (cs 0, 8, .inl (fun j => Int32.ofInt (g j))))]) (.ref q :: st)) : cx_W p l e R s m args below meth c A D Q lsA h0 ci cells slots pc fs ws (.ref t :: st) := by
  subst hpc
  subst hce
  subst hsl
  intro H locs hP hD hS T hT Xs
  obtain ⟨cell, c1, c2, c3, c4, c5, c6, c7⟩ := hF
  have hlt : t < s.heap.size := (Array.getElem?_eq_some_iff.mp c1).1
  have hcT : T.heap[t]? = some cell := by rw [hT, hS.2.1 t hlt c7]; exact c1
  obtain ⟨c0, t0, f1, f2, f3⟩ := Cond.castable_spec (va_Nw.use (A := args) rfl hca)
  cases c4.symm.trans f1
  have hcs : s.vm.findClass "[I" = some (cs 0) := va_nm_int (X.2.2.2.2.2.1.2 0 _ rfl).2
  have ecl : cell.cls = cs 0 := Option.some.inj (c4.symm.trans hcs)
  obtain ⟨-, kA, hkA, comp, hkind⟩ := State.isArrayOf_alike Xs.warmed.alike ((X.2.2.2.2.2.1.2 0 _ rfl).1 0 (fun _ => .null))
  obtain ⟨-, kS, hkS, compS, hkindS⟩ := (X.2.2.2.2.2.1.2 0 _ rfl).1 0 (fun _ => .null)
  have hcell : ({ cls := cell.cls, slots := cell.slots } : Cell) = vp_cell (cs 0) (8, .inl (fun j => Int32.ofInt (g j))) := by
    rw [vp_cell_i, ecl]
    unfold arrV
    congr 1
    apply Array.ext
    · rw [c5, Array.size_ofFn]
    · intro i h1 h2
      have h8 : i < 8 := by rw [← c5]; exact h1
      have := c6 i h8
      rw [Array.getElem?_eq_getElem h1] at this
      rw [Option.some.inj this, Array.getElem_ofFn]
      show _ = Value.int (Int32.ofInt (g i))
      rw [hg]
  obtain ⟨vm', X', stp⟩ := Xs.cloneArray X.1 X.2.2.2.1 (X.2.2.2.2.1 _ hl) (X.2.2.2.2.1 _ hsame) (X.2.2.2.2.1 _ hnat) (X.2.2.2.2.1 _ hinst) (X.2.2.2.2.1 _ hsel) (a := t) (cell := cell) hcT c2 c3 c4 f2 f3
    (fun i v hv => by
      have hi : i < 8 := by rw [← c5]; exact (Array.getElem?_eq_some_iff.mp hv).1
      rw [c6 i hi] at hv
      cases hv
      rw [ecl]
      have hk' : T.vm.classes[cs 0]? = some kA := hkA
      simp [State.fitsSlot, State.slotType?, hk', hkind, fits])
    (g := F0 m pc lsA (.ref t :: st)) rfl (by rw [X.2.2.1]; exact hsz) rfl (by rw [X.2.1]; exact hdg) hfr (by show 2 * 0 + _ + 14 ≤ _; omega) hcells (by rw [c5]; exact hslots) (hloader := by rw [ecl]; exact Vm.clonesLoader_of_array hkS hkindS)
  rw [hcell, c5] at X'
  generalize hH1 : H.push (vp_cell (cs 0) (8, .inl (fun j => Int32.ofInt (g j)))) = H1
  have z1 : H1.size = H.size + 1 := by rw [← hH1, Array.size_push]
  have e1 : H1[H.size]? = some (vp_cell (cs 0) (8, .inl (fun j => Int32.ofInt (g j)))) := by rw [← hH1, Array.getElem?_push_size]
  have o1 : ∀ q : Nat, q < H.size → H1[q]? = H[q]? := fun q hq => by rw [← hH1, Array.getElem?_push, if_neg (Nat.ne_of_lt hq)]
  obtain ⟨u, b1, b2⟩ := kk H.size H1 locs ((hP.kept (fun k y hy => o1 y.1 ((hP k y hy).lt))).app (w2 := [(H.size, .inl (cs 0, 8, .inl (fun j => Int32.ofInt (g j))))]) (fun k y hy => by
      have hz : k < 1 := (List.getElem?_eq_some_iff.mp hy).1
      rw [show k = 0 by omega] at hy
      cases hy
      exact e1)) (hD.push hP rfl (X.2.2.2.2.2.2 _ hS.1)) ⟨Nat.le_trans hS.1 (by omega), fun y h1 h2 => (o1 y (Nat.lt_of_lt_of_le h1 hS.1)).trans (hS.2.1 y h1 h2), hS.2.2⟩
    ((T.setVm vm').pushCell (vp_cell (cs 0) (8, .inl (fun j => Int32.ofInt (g j))))) (by rw [← hH1, ← hT]; rfl) X'
  refine ⟨u, stp u ?_, b2⟩
  rw [hcell, hT]
  exact b1
theorem cx_cast (X : cx_F p s m args c cc own nL A D cs) {i q : Nat} {a : vp_A} (hpc : pc + 3 = pc') (hl : Cond.classLink own i "[I" ∈ en_gw) (hdg : decode cc pc = .ok (.checkcast i, 3)) (kk : cx_W p l e R s m args below meth c A D Q lsA h0 ci cells slots pc' fs (ws ++ [(q, .inl (cs 0, a))]) (.ref q :: st)) : cx_W p l e R s m args below meth c A D Q lsA h0 ci cells slots pc fs (ws ++ [(q, .inl (cs 0, a))]) (.ref q :: st) := by
  subst hpc
  intro H locs hP hD hS
  exact va_castA X.1 X.2.1 X.2.2.2.1 (X.2.2.2.2.1 _ hl) hP (ws.length + 1) cx_at (va_nm_int (X.2.2.2.2.2.1.2 0 _ rfl).2) hdg (kk H locs hP hD hS)
end CY
theorem cx_ws {p : Program} {l : Launch} {e : Env} {R : Room} {s : State} {m : MethodId} {args : Array Value} {below : List Frame} {meth : Method} {c : Code} {A : Nat → Prop} {D : va_G} {Q : State → Prop} {lsA : Array Slot} {h0 ci cells slots pc : Nat} {fs : List Value} {ws ws' : va_W} {st : List Value} (h : ws = ws') (kk : cx_W p l e R s m args below meth c A D Q lsA h0 ci cells slots pc fs ws' st) : cx_W p l e R s m args below meth c A D Q lsA h0 ci cells slots pc fs ws st := by
  subst h
  exact kk
