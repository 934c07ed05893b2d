/-! words of the tables -/
set_option maxRecDepth 20000 in
theorem tw_1 : (Jvm.Cond.initialized "TownRiverBeast") ∈ lw_tbl := en_tm_1 _ (List.mem_of_getElem? (i := 1) rfl)
set_option maxRecDepth 20000 in
theorem tw_11 : (Jvm.Cond.initialized "java/lang/String") ∈ lw_tbl := en_tm_1 _ (List.mem_of_getElem? (i := 11) rfl)
set_option maxRecDepth 20000 in
theorem tw_13 : (Jvm.Cond.initialized "jdk/internal/util/Preconditions") ∈ lw_tbl := en_tm_1 _ (List.mem_of_getElem? (i := 13) rfl)
set_option maxRecDepth 20000 in
theorem tw_25 : (Jvm.Cond.methodLinkNest "TownRiverBeast" (9 : Nat) ({ cls := "TownRiverBeast$Evening", name := "<init>", desc := "()V" } : Jvm.MethodName) "TownRiverBeast") ∈ lw_tbl := en_tm_1 _ (List.mem_of_getElem? (i := 25) rfl)
set_option maxRecDepth 20000 in
theorem tw_29 : (Jvm.Cond.fieldLinkNest "TownRiverBeast$Evening" (24 : Nat) "TownRiverBeast" "ASK_FIRST" "[I" "TownRiverBeast") ∈ lw_tbl := en_tm_1 _ (List.mem_of_getElem? (i := 29) rfl)
set_option maxRecDepth 20000 in
theorem tw_30 : (Jvm.Cond.laysStatic "TownRiverBeast" "ASK_FIRST" "[I") ∈ lw_tbl := en_tm_1 _ (List.mem_of_getElem? (i := 30) rfl)
set_option maxRecDepth 20000 in
theorem tw_36 : (Jvm.Cond.castable "[I" "java/lang/Cloneable") ∈ lw_tbl := en_tm_1 _ (List.mem_of_getElem? (i := 36) rfl)
set_option maxRecDepth 20000 in
theorem tw_39 : (Jvm.Cond.arrayOver (Jvm.ClassFile.FieldType.array Jvm.ClassFile.FieldType.int)) ∈ lw_tbl := en_tm_1 _ (List.mem_of_getElem? (i := 39) rfl)
set_option maxRecDepth 20000 in
theorem tw_122 : (Jvm.Cond.methodLinkNest "TownRiverBeast" (24 : Nat) ({ cls := "TownRiverBeast$Outcome", name := "<init>", desc := "()V" } : Jvm.MethodName) "TownRiverBeast") ∈ lw_tbl := en_tm_1 _ (List.mem_of_getElem? (i := 122) rfl)
set_option maxRecDepth 20000 in
theorem tw_144 : (Jvm.Cond.methodLinkNest "TownRiverBeast" (31 : Nat) ({ cls := "TownRiverBeast$BestSheet", name := "<init>", desc := "()V" } : Jvm.MethodName) "TownRiverBeast") ∈ lw_tbl := en_tm_1 _ (List.mem_of_getElem? (i := 144) rfl)
set_option maxRecDepth 20000 in
theorem tw_208 : (Jvm.Cond.methodLinkNest "TownRiverBeast" (38 : Nat) ({ cls := "TownRiverBeast$Reader", name := "<init>", desc := "()V" } : Jvm.MethodName) "TownRiverBeast") ∈ lw_tbl := en_tm_1 _ (List.mem_of_getElem? (i := 208) rfl)
set_option maxRecDepth 20000 in
theorem tw_245 : (Jvm.Cond.arrayOver (Jvm.ClassFile.FieldType.object "TownRiverBeast$Shelf")) ∈ lw_tbl := en_tm_2 _ (List.mem_of_getElem? (i := 5) rfl)
set_option maxRecDepth 20000 in
theorem tw_247 : (Jvm.Cond.methodLinkNest "TownRiverBeast" (60 : Nat) ({ cls := "TownRiverBeast$Shelf", name := "<init>", desc := "()V" } : Jvm.MethodName) "TownRiverBeast") ∈ lw_tbl := en_tm_2 _ (List.mem_of_getElem? (i := 7) rfl)
set_option maxRecDepth 20000 in
theorem tw_337 : (Jvm.Cond.methodLinkNest "TownRiverBeast$Shelf" (25 : Nat) ({ cls := "TownRiverBeast", name := "within", desc := "(III)Z" } : Jvm.MethodName) "TownRiverBeast") ∈ lw_tbl := en_tm_2 _ (List.mem_of_getElem? (i := 97) rfl)
set_option maxRecDepth 20000 in
theorem tw_373 : (Jvm.Cond.methodLinkNest "TownRiverBeast$Evening" (75 : Nat) ({ cls := "TownRiverBeast", name := "within", desc := "(III)Z" } : Jvm.MethodName) "TownRiverBeast") ∈ lw_tbl := en_tm_2 _ (List.mem_of_getElem? (i := 133) rfl)
set_option maxRecDepth 20000 in
theorem tw_387 : (Jvm.Cond.laysStatic "TownRiverBeast" "UNDER" "[I") ∈ lw_tbl := en_tm_2 _ (List.mem_of_getElem? (i := 147) rfl)
set_option maxRecDepth 20000 in
theorem tw_466 : (Jvm.Cond.laysStatic "TownRiverBeast" "ASK_LEAST" "[I") ∈ lw_tbl := en_tm_2 _ (List.mem_of_getElem? (i := 226) rfl)
set_option maxRecDepth 20000 in
theorem tw_468 : (Jvm.Cond.laysStatic "TownRiverBeast" "ASK_MOST" "[I") ∈ lw_tbl := en_tm_2 _ (List.mem_of_getElem? (i := 228) rfl)
set_option maxRecDepth 20000 in
theorem tw_530 : (Jvm.Cond.methodLinkNest "TownRiverBeast$Reader" (52 : Nat) ({ cls := "TownRiverBeast", name := "within", desc := "(III)Z" } : Jvm.MethodName) "TownRiverBeast") ∈ lw_tbl := en_tm_3 _ (List.mem_of_getElem? (i := 50) rfl)
set_option maxRecDepth 20000 in
theorem tw_535 : (Jvm.Cond.stringRef "TownRiverBeast$Reader" (66 : Nat) "columns") ∈ lw_tbl := en_tm_3 _ (List.mem_of_getElem? (i := 55) rfl)
set_option maxRecDepth 20000 in
theorem tw_549 : (Jvm.Cond.laysStatic "java/lang/String" "COMPACT_STRINGS" "Z") ∈ lw_tbl := en_tm_3 _ (List.mem_of_getElem? (i := 69) rfl)
set_option maxRecDepth 20000 in
theorem tw_565 : (Jvm.Cond.laysStatic "jdk/internal/util/Preconditions" "SIOOBE_FORMATTER" "Ljava/util/function/BiFunction;") ∈ lw_tbl := en_tm_3 _ (List.mem_of_getElem? (i := 85) rfl)
set_option maxRecDepth 20000 in
theorem tw_600 : (Jvm.Cond.stringRef "TownRiverBeast$Reader" (80 : Nat) "word") ∈ lw_tbl := en_tm_3 _ (List.mem_of_getElem? (i := 120) rfl)
set_option maxRecDepth 20000 in
theorem tw_607 : (Jvm.Cond.stringRef "TownRiverBeast$Reader" (89 : Nat) "person") ∈ lw_tbl := en_tm_3 _ (List.mem_of_getElem? (i := 127) rfl)
set_option maxRecDepth 20000 in
theorem tw_614 : (Jvm.Cond.stringRef "TownRiverBeast$Reader" (97 : Nat) "knows") ∈ lw_tbl := en_tm_3 _ (List.mem_of_getElem? (i := 134) rfl)
set_option maxRecDepth 20000 in
theorem tw_619 : (Jvm.Cond.stringRef "TownRiverBeast$Reader" (102 : Nat) "letter") ∈ lw_tbl := en_tm_3 _ (List.mem_of_getElem? (i := 139) rfl)
set_option maxRecDepth 20000 in
theorem tw_624 : (Jvm.Cond.fieldLinkNest "TownRiverBeast$Reader" (139 : Nat) "TownRiverBeast" "ASK_LEAST" "[I" "TownRiverBeast") ∈ lw_tbl := en_tm_3 _ (List.mem_of_getElem? (i := 144) rfl)
set_option maxRecDepth 20000 in
theorem tw_625 : (Jvm.Cond.fieldLinkNest "TownRiverBeast$Reader" (142 : Nat) "TownRiverBeast" "ASK_MOST" "[I" "TownRiverBeast") ∈ lw_tbl := en_tm_3 _ (List.mem_of_getElem? (i := 145) rfl)
set_option maxRecDepth 20000 in
theorem tw_626 : (Jvm.Cond.stringRef "TownRiverBeast$Reader" (108 : Nat) "need") ∈ lw_tbl := en_tm_3 _ (List.mem_of_getElem? (i := 146) rfl)
set_option maxRecDepth 20000 in
theorem tw_627 : (Jvm.Cond.stringRef "TownRiverBeast$Reader" (110 : Nat) "bell") ∈ lw_tbl := en_tm_3 _ (List.mem_of_getElem? (i := 147) rfl)
set_option maxRecDepth 20000 in
theorem tw_628 : (Jvm.Cond.stringRef "TownRiverBeast$Reader" (112 : Nat) "points") ∈ lw_tbl := en_tm_3 _ (List.mem_of_getElem? (i := 148) rfl)
set_option maxRecDepth 20000 in
theorem tw_629 : (Jvm.Cond.stringRef "TownRiverBeast$Reader" (114 : Nat) "sheet") ∈ lw_tbl := en_tm_3 _ (List.mem_of_getElem? (i := 149) rfl)
set_option maxRecDepth 20000 in
theorem tw_937 : (Jvm.Cond.arrayOver (Jvm.ClassFile.FieldType.array Jvm.ClassFile.FieldType.long)) ∈ lw_tbl := en_tm_4 _ (List.mem_of_getElem? (i := 217) rfl)
set_option maxRecDepth 20000 in
theorem tw_1240 : (Jvm.Cond.stringRef "TownRiverBeastModel" (233 : Nat) "columns") ∈ lw_tbl := en_tm_6 _ (List.mem_of_getElem? (i := 40) rfl)
set_option maxRecDepth 20000 in
theorem tw_1259 : (Jvm.Cond.stringRef "TownRiverBeastModel" (238 : Nat) "word") ∈ lw_tbl := en_tm_6 _ (List.mem_of_getElem? (i := 59) rfl)
set_option maxRecDepth 20000 in
theorem tw_1260 : (Jvm.Cond.stringRef "TownRiverBeastModel" (240 : Nat) "person") ∈ lw_tbl := en_tm_6 _ (List.mem_of_getElem? (i := 60) rfl)
set_option maxRecDepth 20000 in
theorem tw_1261 : (Jvm.Cond.stringRef "TownRiverBeastModel" (242 : Nat) "knows") ∈ lw_tbl := en_tm_6 _ (List.mem_of_getElem? (i := 61) rfl)
set_option maxRecDepth 20000 in
theorem tw_1262 : (Jvm.Cond.stringRef "TownRiverBeastModel" (244 : Nat) "letter") ∈ lw_tbl := en_tm_6 _ (List.mem_of_getElem? (i := 62) rfl)
set_option maxRecDepth 20000 in
theorem tw_1271 : (Jvm.Cond.stringRef "TownRiverBeastModel" (248 : Nat) "need") ∈ lw_tbl := en_tm_6 _ (List.mem_of_getElem? (i := 71) rfl)
set_option maxRecDepth 20000 in
theorem tw_1272 : (Jvm.Cond.stringRef "TownRiverBeastModel" (250 : Nat) "bell") ∈ lw_tbl := en_tm_6 _ (List.mem_of_getElem? (i := 72) rfl)
set_option maxRecDepth 20000 in
theorem tw_1273 : (Jvm.Cond.stringRef "TownRiverBeastModel" (252 : Nat) "points") ∈ lw_tbl := en_tm_6 _ (List.mem_of_getElem? (i := 73) rfl)
set_option maxRecDepth 20000 in
theorem tw_1274 : (Jvm.Cond.stringRef "TownRiverBeastModel" (254 : Nat) "sheet") ∈ lw_tbl := en_tm_6 _ (List.mem_of_getElem? (i := 74) rfl)
/-! the start -/
theorem st_arr {args : Array Value} {s : State} {ty : FieldType} (h : (Cond.arrayClass ty).before args s = true) : ∃ cA : ClassId, ArrOfT s cA ty ∧ s.vm.findClass ("[" ++ ty.toString) = some cA := by
  obtain ⟨cA, k, comp, h1, h2, h3⟩ := Cond.arrayClass_spec h
  exact ⟨cA, fun N z => ⟨(fun k h => by cases h), k, h2, comp, h3⟩, h1⟩
theorem st_arrA {args : Array Value} {s : State} {ty : FieldType} (h : (Cond.arrayOver (.array ty)).before args s = true) : ∃ cA : ClassId, ArrOfT s cA (.array ty) ∧ va_RA s cA (.array ty) := by
  obtain ⟨comp, cA, k, h0, h1, h2, h3, h4⟩ := arrayOverA_spec h
  exact ⟨cA, fun N z => ⟨(fun k h => by cases h), k, h2, comp, h3⟩, h4⟩
theorem st_arrO {args : Array Value} {s : State} {C : String} (h : (Cond.arrayOver (.object C)).before args s = true) : ∃ cA : ClassId, ArrOfT s cA (.object C) ∧ va_RA s cA (.object C) := by
  obtain ⟨comp, cA, k, h0, h1, h2, h3, h4⟩ := Cond.arrayOver_spec h
  exact ⟨cA, fun N z => ⟨(fun k h => by cases h), k, h2, comp, h3⟩, k, comp, h2, h3, h0, h4⟩
theorem st_K {args : Array Value} {s : State} (hts : ∀ w ∈ lw_tbl, w.before args s = true) : ∃ (D : va_G) (cs : Nat → ClassId), va_K D vwCl (en_tys cs) s := by
  have hg : ∀ w ∈ en_gw, w.before args s = true := fun w hw => hts w (List.mem_filter.mp hw).1
  obtain ⟨c0, i0, h0⟩ := u_known (C := RX0) (T := TX0) (N := 18) (n := 18) hg (en_uw (c := 0) (r := (RX0, TX0, 18)) rfl) (hg _ cw_143)
  obtain ⟨c1, i1, h1⟩ := u_known (C := RX1) (T := TX1) (N := 15) (n := 15) hg (en_uw (c := 1) (r := (RX1, TX1, 15)) rfl) (hg _ cw_24)
  obtain ⟨c2, i2, h2⟩ := u_known (C := RX2) (T := TX2) (N := 4) (n := 4) hg (en_uw (c := 2) (r := (RX2, TX2, 4)) rfl) (hg _ cw_121)
  obtain ⟨c3, i3, h3⟩ := u_known (C := RX3) (T := TX3) (N := 9) (n := 9) hg (en_uw (c := 3) (r := (RX3, TX3, 9)) rfl) (hg _ cw_207)
  obtain ⟨c4, i4, h4⟩ := u_known (C := RX4) (T := TX4) (N := 4) (n := 4) hg (en_uw (c := 4) (r := (RX4, TX4, 4)) rfl) (hg _ cw_246)
  obtain ⟨c5, i5, h5⟩ := u_known (C := RX5) (T := TX5) (N := 10) (n := 10) hg (en_uw (c := 5) (r := (RX5, TX5, 10)) rfl) (hg _ cw_16)
  obtain ⟨c6, i6, h6⟩ := u_known (C := RX6) (T := TX6) (N := 41) (n := 41) hg (en_uw (c := 6) (r := (RX6, TX6, 41)) rfl) (hg _ cw_931)
  obtain ⟨a0, f0, g0⟩ := st_arr (hg _ cw_118)
  obtain ⟨a1, f1, g1⟩ := st_arr (hg _ cw_119)
  obtain ⟨a2, f2, g2⟩ := st_arr (hg _ cw_243)
  obtain ⟨a3, f3, g3⟩ := st_arrO (hts _ tw_245)
  obtain ⟨a4, f4, g4⟩ := st_arrA (hts _ tw_39)
  obtain ⟨a5, f5, g5⟩ := st_arrA (hts _ tw_937)
  refine ⟨(fun k => [c0, c1, c2, c3, c4, c5, c6].getD k c0, fun k => [i0, i1, i2, i3, i4, i5, i6].getD k i0), fun k => [a0, a1, a2, a3, a4, a5].getD k a0, ?_, ?_⟩
  · intro k q hq
    match k, hq with
    | 0, hq => cases hq; exact h0
    | 1, hq => cases hq; exact h1
    | 2, hq => cases hq; exact h2
    | 3, hq => cases hq; exact h3
    | 4, hq => cases hq; exact h4
    | 5, hq => cases hq; exact h5
    | 6, hq => cases hq; exact h6
    | k + 7, hq => simp [vwCl] at hq
  · intro k q hq
    match k, hq with
    | 0, hq => cases hq; exact ⟨f0, g0⟩
    | 1, hq => cases hq; exact ⟨f1, g1⟩
    | 2, hq => cases hq; exact ⟨f2, g2⟩
    | 3, hq => cases hq; exact ⟨f3, g3⟩
    | 4, hq => cases hq; exact ⟨f4, g4⟩
    | 5, hq => cases hq; exact ⟨f5, g5⟩
    | k + 6, hq => simp [en_tys] at hq
def lw_fl : List Cond := flatC (Cond.and given_1 narrow_1)
def st_s (i : Nat) : Term := .static "TownRiverBeast" (en_sn.getD i "") "[I"
theorem st_T : ∀ i, i < 4 → ∀ j, j < (en_sv.getD i []).length → Cond.eq (.elem (st_s i) (.int (Int32.ofNat j))) (.int (Int32.ofInt ((en_sv.getD i []).getD j 0))) ∈ lw_fl := by decide +kernel
theorem st_A : ∀ i, i < 4 → Cond.arrayOf (st_s i) .int ∈ lw_fl ∧ Cond.eq (.length (st_s i)) (.int (Int32.ofNat (en_sv.getD i []).length)) ∈ lw_fl ∧ Cond.exactly (st_s i) "[I" ∈ lw_fl ∧ (en_sv.getD i []).length < 2 ^ 31 := by decide +kernel
theorem st_L : ∀ i, i < 4 → Cond.laysStatic "TownRiverBeast" (en_sn.getD i "") "[I" ∈ lw_tbl := by
  intro i hi
  match i, hi with
  | 0, _ => exact tw_387
  | 1, _ => exact tw_30
  | 2, _ => exact tw_466
  | 3, _ => exact tw_468
def st_x : List Nat := [66, 80, 89, 97, 102, 108, 110, 112, 114]
def st_y : List Nat := [233, 238, 240, 242, 244, 248, 250, 252, 254]
def st_tm (i : Nat) : Term := .string "TownRiverBeast$Reader" (st_x.getD i 0)
def st_um (i : Nat) : Term := .string "TownRiverBeastModel" (st_y.getD i 0)
def st_v (i : Nat) : Term := .field (st_tm i) "java/lang/String" "value" "[B"
theorem st_S1 : ∀ i, i < 9 → Cond.exactly (st_tm i) "java/lang/String" ∈ lw_fl ∧ Cond.eq (.field (st_tm i) "java/lang/String" "coder" "B") (.int 0) ∈ lw_fl ∧ Cond.arrayOf (st_v i) .byte ∈ lw_fl ∧ Cond.eq (.length (st_v i)) (.int (Int32.ofNat ((en_by.map List.length).getD i 0))) ∈ lw_fl ∧ (en_by.map List.length).getD i 0 < 2 ^ 31 ∧ Cond.eq (st_tm i) (st_um i) ∈ lw_fl := by decide +kernel
theorem st_S2 : ∀ i, i < 9 → ∀ j, j < (en_by.map List.length).getD i 0 → Cond.eq (.elem (st_v i) (.int (Int32.ofNat j))) (.int (((en_by.map (fun l => l.map Int32.ofInt)).getD i []).getD j 0)) ∈ lw_fl := by decide +kernel
theorem st_S3 : ∀ i, i < 9 → ∀ j, j < 9 → i ≠ j → Cond.not (Cond.eq (st_tm i) (st_tm j)) ∈ lw_fl ∨ Cond.not (Cond.eq (st_tm j) (st_tm i)) ∈ lw_fl := by decide +kernel
theorem st_o1 : Cond.eq (.static "java/lang/String" "COMPACT_STRINGS" "Z") (.int 1) ∈ lw_fl ∧ Cond.isRef (.static "jdk/internal/util/Preconditions" "SIOOBE_FORMATTER" "Ljava/util/function/BiFunction;") ∈ lw_fl := by decide +kernel
theorem st_eqR {args : Array Value} {s : State} {t u : Term} {a : Nat} (h : (Cond.eq t u).before args s = true) (ht : t.eval args s none [] s = some (.ref a)) : u.eval args s none [] s = some (.ref a) := by
  cases hv : u.eval args s none [] s with
  | none => simp [Cond.before, Cond.holds, Cond.value, ht, hv] at h
  | some w =>
    simp only [Cond.before, Cond.holds, Cond.value, hv, ht] at h
    cases w <;> simp_all
theorem st_size {args : Array Value} {s : State} {tm : Term} {t N : Nat} {cell : Cell} (ht : tm.eval args s none [] s = some (.ref t)) (hc : s.heap[t]? = some cell) (hlen : (Term.length tm).eval args s none [] s = some (.int (Int32.ofNat N))) (hN : N < 2 ^ 31) : cell.slots.size = N := by
  have hlen' := hlen
  obtain ⟨a, cell', h1, h2, h3⟩ := Term.length_spec hlen
  cases ht.symm.trans h1
  obtain ⟨h4, -⟩ := State.arrayAt?_spec h2
  cases hc.symm.trans h4
  have hsz : cell.slots.size < 2 ^ 31 := by
    simp only [Term.eval, ht, h2, Option.bind_eq_bind, Option.bind_some] at hlen'
    by_cases hlt : cell.slots.size < 2147483648
    · exact hlt
    · simp [hlt] at hlen'
  have e : Int32.ofNat N = Int32.ofNat cell.slots.size := Value.int.inj h3
  exact (Int32.toNatClampNeg_ofNat_of_lt hsz).symm.trans ((congrArg Int32.toNatClampNeg e.symm).trans (Int32.toNatClampNeg_ofNat_of_lt hN))
theorem st_tab {s : State} {b : Nat} (hts : ∀ w ∈ lw_tbl, w.before #[Value.ref b] s = true) (hgv : (Cond.and given_1 narrow_1).before #[Value.ref b] s = true) (i : Nat) (hi : i < 4) : ∃ t : Nat, (st_s i).eval #[Value.ref b] s none [] s = some (.ref t) ∧ va_Z "TownRiverBeast" (en_sn.getD i "") "[I" (.ref t) (fun q : Nat => s.heap.size ≤ q) s s.heap ∧ va_T .int t ((en_sv.getD i []).length) (fun j => .int (Int32.ofInt ((en_sv.getD i []).getD j 0))) (fun q : Nat => s.heap.size ≤ q) s s.heap := by
  have hA : ∀ a : Nat, a < s.heap.size → ¬ (fun q : Nat => s.heap.size ≤ q) a := fun a h => Nat.not_le.mpr h
  have hf := flat_of_before _ hgv
  obtain ⟨t, h1, h2⟩ := va_Tof (tm := st_s i) (ty := .int) (N := (en_sv.getD i []).length) (f := fun j => .int (Int32.ofInt ((en_sv.getD i []).getD j 0))) (A := (fun q : Nat => s.heap.size ≤ q)) (st_A i hi).2.2.2 (hf _ (st_A i hi).1) (va_eqt (hf _ (st_A i hi).2.1)) (fun j hj => va_eqt (hf _ (st_T i hi j hj))) hA
  exact ⟨t, h1, va_Zof (hts _ (st_L i hi)) (hts _ tw_1) h1 hA, h2⟩
theorem st_en {s : State} {b : Nat} (hts : ∀ w ∈ lw_tbl, w.before #[Value.ref b] s = true) (hgv : (Cond.and given_1 narrow_1).before #[Value.ref b] s = true) : ∃ cd : Nat → Nat → Nat, cd 9 0 = b ∧ en_K cd (fun q : Nat => s.heap.size ≤ q) s s.heap := by
  have hA : ∀ a : Nat, a < s.heap.size → ¬ (fun q : Nat => s.heap.size ≤ q) a := fun a h => Nat.not_le.mpr h
  have hf := flat_of_before _ hgv
  have h6 : ∀ i : Nat, ∃ t : Nat, i < 4 → va_Z "TownRiverBeast" (en_sn.getD i "") "[I" (.ref t) (fun q : Nat => s.heap.size ≤ q) s s.heap ∧ va_T .int t ((en_sv.getD i []).length) (fun j => .int (Int32.ofInt ((en_sv.getD i []).getD j 0))) (fun q : Nat => s.heap.size ≤ q) s s.heap := by
    intro i
    by_cases hi : i < 4
    · obtain ⟨t, -, h1, h2⟩ := st_tab hts hgv i hi
      exact ⟨t, fun _ => ⟨h1, h2⟩⟩
    · exact ⟨0, fun h => absurd h hi⟩
  obtain ⟨c6, h6⟩ := Classical.axiomOfChoice h6
  obtain ⟨adK, adV, hS, hSt⟩ := vk_Sof (args := #[Value.ref b]) (N := 9) (tm := st_tm) (len := en_by.map List.length) (byt := en_by.map (fun (l : List Int) => l.map Int32.ofInt)) (A := (fun q : Nat => s.heap.size ≤ q)) (fun i hi => (st_S1 i hi).2.2.2.2.1) (fun i hi => hf _ (st_S1 i hi).1) (fun i hi => hf _ (st_S1 i hi).2.1) (fun i hi => hf _ (st_S1 i hi).2.2.1) (fun i hi => hf _ (st_S1 i hi).2.2.2.1) (fun i hi j hj => hf _ (st_S2 i hi j hj)) (fun i j hi hj hij => (st_S3 i hi j hj hij).imp (fun z => hf _ z) (fun z => hf _ z)) hA
  obtain ⟨v, hv, hvr⟩ := Cond.isRef_spec (hf _ st_o1.2)
  obtain ⟨t10, ht10⟩ : ∃ n : Nat, (match n with | 0 => Value.null | t + 1 => .ref t) = v := by
    cases v with
    | null => exact ⟨0, rfl⟩
    | ref t => exact ⟨t + 1, rfl⟩
    | _ => cases hvr
  refine ⟨fun k n => if k = 6 then c6 n else if k = 7 then adK n else if k = 8 then adV n else if k = 9 then b else t10, rfl, h6, va_Zof (hts _ tw_549) (hts _ tw_11) (va_eqi (hf _ st_o1.1)) hA, ?_, ?_, hS, ?_⟩
  · show va_Z _ _ _ (match (generalizing := false) t10 with | 0 => Value.null | t + 1 => .ref t) _ s s.heap
    rw [ht10]
    exact va_Zof (hts _ tw_565) (hts _ tw_13) hv hA
  · unfold en_sr
    exact List.forall_mem_cons.mpr ⟨vk_R.of (A := #[Value.ref b]) (hts _ tw_535) (hSt 0 (by decide)), List.forall_mem_cons.mpr ⟨vk_R.of (A := #[Value.ref b]) (hts _ tw_600) (hSt 1 (by decide)), List.forall_mem_cons.mpr ⟨vk_R.of (A := #[Value.ref b]) (hts _ tw_607) (hSt 2 (by decide)), List.forall_mem_cons.mpr ⟨vk_R.of (A := #[Value.ref b]) (hts _ tw_614) (hSt 3 (by decide)), List.forall_mem_cons.mpr ⟨vk_R.of (A := #[Value.ref b]) (hts _ tw_619) (hSt 4 (by decide)), List.forall_mem_cons.mpr ⟨vk_R.of (A := #[Value.ref b]) (hts _ tw_626) (hSt 5 (by decide)), List.forall_mem_cons.mpr ⟨vk_R.of (A := #[Value.ref b]) (hts _ tw_627) (hSt 6 (by decide)), List.forall_mem_cons.mpr ⟨vk_R.of (A := #[Value.ref b]) (hts _ tw_628) (hSt 7 (by decide)), List.forall_mem_cons.mpr ⟨vk_R.of (A := #[Value.ref b]) (hts _ tw_629) (hSt 8 (by decide)), List.forall_mem_cons.mpr ⟨vk_R.of (A := #[Value.ref b]) (hts _ tw_1240) (st_eqR (hf _ (st_S1 0 (by decide)).2.2.2.2.2) (hSt 0 (by decide))), List.forall_mem_cons.mpr ⟨vk_R.of (A := #[Value.ref b]) (hts _ tw_1259) (st_eqR (hf _ (st_S1 1 (by decide)).2.2.2.2.2) (hSt 1 (by decide))), List.forall_mem_cons.mpr ⟨vk_R.of (A := #[Value.ref b]) (hts _ tw_1260) (st_eqR (hf _ (st_S1 2 (by decide)).2.2.2.2.2) (hSt 2 (by decide))), List.forall_mem_cons.mpr ⟨vk_R.of (A := #[Value.ref b]) (hts _ tw_1261) (st_eqR (hf _ (st_S1 3 (by decide)).2.2.2.2.2) (hSt 3 (by decide))), List.forall_mem_cons.mpr ⟨vk_R.of (A := #[Value.ref b]) (hts _ tw_1262) (st_eqR (hf _ (st_S1 4 (by decide)).2.2.2.2.2) (hSt 4 (by decide))), List.forall_mem_cons.mpr ⟨vk_R.of (A := #[Value.ref b]) (hts _ tw_1271) (st_eqR (hf _ (st_S1 5 (by decide)).2.2.2.2.2) (hSt 5 (by decide))), List.forall_mem_cons.mpr ⟨vk_R.of (A := #[Value.ref b]) (hts _ tw_1272) (st_eqR (hf _ (st_S1 6 (by decide)).2.2.2.2.2) (hSt 6 (by decide))), List.forall_mem_cons.mpr ⟨vk_R.of (A := #[Value.ref b]) (hts _ tw_1273) (st_eqR (hf _ (st_S1 7 (by decide)).2.2.2.2.2) (hSt 7 (by decide))), List.forall_mem_cons.mpr ⟨vk_R.of (A := #[Value.ref b]) (hts _ tw_1274) (st_eqR (hf _ (st_S1 8 (by decide)).2.2.2.2.2) (hSt 8 (by decide))), fun _ h => absurd h List.not_mem_nil⟩⟩⟩⟩⟩⟩⟩⟩⟩⟩⟩⟩⟩⟩⟩⟩⟩⟩
  · unfold en_nest
    exact List.forall_mem_cons.mpr ⟨va_Nw.of (A := #[Value.ref b]) rfl (hts _ tw_337), List.forall_mem_cons.mpr ⟨va_Nw.of (A := #[Value.ref b]) rfl (hts _ tw_373), List.forall_mem_cons.mpr ⟨va_Nw.of (A := #[Value.ref b]) rfl (hts _ tw_530), List.forall_mem_cons.mpr ⟨va_Nw.of (A := #[Value.ref b]) rfl (hts _ tw_624), List.forall_mem_cons.mpr ⟨va_Nw.of (A := #[Value.ref b]) rfl (hts _ tw_625), List.forall_mem_cons.mpr ⟨hts _ tw_39, List.forall_mem_cons.mpr ⟨hts _ tw_937, fun _ h => absurd h List.not_mem_nil⟩⟩⟩⟩⟩⟩⟩
theorem st_E5 {s : State} {b : Nat} (hts : ∀ w ∈ lw_tbl, w.before #[Value.ref b] s = true) (hgv : (Cond.and given_1 narrow_1).before #[Value.ref b] s = true) : cx_E5 (fun q : Nat => s.heap.size ≤ q) s := by
  have hf := flat_of_before _ hgv
  obtain ⟨t, h1, h2, cell, g1, g2, g3, g4, g5, g6, g7⟩ := st_tab hts hgv 1 (by decide)
  obtain ⟨a, c, cell', k, e1, e2, e3, e4, e5, e6, -⟩ := Cond.exactly_spec (hf _ (st_A 1 (by decide)).2.2.1)
  cases h1.symm.trans e1
  cases g1.symm.trans e3
  have hsz := st_size h1 g1 (va_eqt (hf _ (st_A 1 (by decide)).2.1)) (st_A 1 (by decide)).2.2.2
  refine ⟨⟨hts _ tw_39, va_Nw.of (A := #[Value.ref b]) rfl (hts _ tw_36), va_Nw.of (A := #[Value.ref b]) rfl (hts _ tw_29), t, h2, cell, g1, fun k h => ?_, g3, ?_, hsz, fun j hj => g6 j hj, g7⟩, ⟨va_Nw.of (A := #[Value.ref b]) rfl (hts _ tw_25), va_Nw.of (A := #[Value.ref b]) rfl (hts _ tw_122), va_Nw.of (A := #[Value.ref b]) rfl (hts _ tw_144), va_Nw.of (A := #[Value.ref b]) rfl (hts _ tw_208), va_Nw.of (A := #[Value.ref b]) rfl (hts _ tw_247)⟩, hts _ tw_245⟩
  · rw [h] at e5
    cases e5
  · rw [e2, e6]
theorem of_lo : ∀ a, a < 84 → ∀ d ∈ en_of a, d < 84 := by decide +kernel
theorem of_hi : ∀ i, i < 37 → ∀ d ∈ en_of (84 + i), 84 ≤ d := by decide +kernel
theorem st_wd (q1 q2 : Nat → Nat) (cs : Nat → ClassId) : cx_blk cs 0 84 q1 ++ cx_blk cs 84 37 q2 = en_wd (fun a => if a < 84 then q1 a else q2 (a - 84)) cs cx_M := by
  have e : en_pl cx_M = List.range 84 ++ (List.range 37).map (84 + ·) := by decide +kernel
  unfold en_wd
  rw [e, List.map_append, List.map_map]
  congr 1
  · unfold cx_blk
    apply List.map_congr_left
    intro i hi
    have hi := List.mem_range.mp hi
    show (q1 i, en_cell (fun a => q1 (a - 0)) cs cx_M (0 + i)) = ((if i < 84 then q1 i else q2 (i - 84)), en_cell (fun a => if a < 84 then q1 a else q2 (a - 84)) cs cx_M i)
    rw [if_pos hi, Nat.zero_add]
    exact congrArg (fun z => (q1 i, z)) (en_cell_of rfl rfl (fun d hd => (if_pos (of_lo i hi d hd)).symm))
  · unfold cx_blk
    apply List.map_congr_left
    intro i hi
    have hi := List.mem_range.mp hi
    show (q2 i, en_cell (fun a => q2 (a - 84)) cs cx_M (84 + i)) = ((if 84 + i < 84 then q1 (84 + i) else q2 (84 + i - 84)), en_cell (fun a => if a < 84 then q1 a else q2 (a - 84)) cs cx_M (84 + i))
    rw [if_neg (by omega), Nat.add_sub_cancel_left]
    exact congrArg (fun z => (q2 i, z)) (en_cell_of rfl rfl (fun d hd => (if_neg (by have := of_hi i hi d hd; omega)).symm))
theorem st_cpl : cpl cx_M := by
  refine ⟨⟨⟨by unfold s_num; decide +kernel, fun w hw => absurd hw (by show ¬ ((w : Nat) : Int) < 0; omega), ?_, ?_, fun i _ => Or.inl rfl⟩, ?_⟩, Or.inl ⟨rfl, rfl⟩, ?_, ?_, ?_⟩
  · intro p hp
    rcases (show p = 0 ∨ p = 1 ∨ p = 2 ∨ p = 3 by omega) with rfl | rfl | rfl | rfl
    all_goals exact ⟨⟨by decide +kernel, by decide +kernel⟩, fun i hi => absurd hi (by show ¬ ((i : Nat) : Int) < 0; omega)⟩
  · intro p hp i j hij hj
    have h0 : (vE cx_M 1).1 14 p = 0 := rfl
    omega
  · refine ⟨?_, ?_, ?_, ?_, ?_⟩
    · decide +kernel
    · decide +kernel
    · intro r i h2 h8 hi
      rcases (show r = 2 ∨ r = 3 ∨ r = 4 ∨ r = 5 ∨ r = 6 ∨ r = 7 ∨ r = 8 by omega) with rfl | rfl | rfl | rfl | rfl | rfl | rfl <;> rfl
    · intro p hp
      exact ⟨rfl, rfl⟩
    · intro p i hp hi
      rcases (show p = 0 ∨ p = 1 ∨ p = 2 ∨ p = 3 by omega) with rfl | rfl | rfl | rfl <;> rfl
  · refine ⟨by decide +kernel, rfl, fun i hi => absurd hi (by show ¬ ((i : Nat) : Int) < 0; omega)⟩
  · intro k _
    rfl
  · intro s hs
    rcases (show s = 0 ∨ s = 1 ∨ s = 2 ∨ s = 3 ∨ s = 4 ∨ s = 5 ∨ s = 6 ∨ s = 7 by omega) with rfl | rfl | rfl | rfl | rfl | rfl | rfl | rfl
    all_goals exact Or.inl ⟨rfl, rfl⟩
theorem st_bl : bl cx_M = 2 := by decide +kernel
