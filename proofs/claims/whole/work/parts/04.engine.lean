/-! THE ENGINE: an abstract machine over numbers; a contract (en_Ct) of a method over it; what one instruction asks (en_st); what a stretch asks (en_vc) -/
/-- the good words of the tables: every method's -/
def en_gw : List Cond := lw_tbl.filter goodWord
def en_mh0 : MH := (⟨"", "", ""⟩, ⟨#[]⟩, 0, none, 0, true, 99)
def en_m (k : Nat) : MH := en_mh.getD k en_mh0
def en_ws (k : Nat) : List Cond := Cond.code (en_m k).1 (en_m k).2.1 (en_m k).2.2.1 (en_m k).2.2.2.1 :: en_gw
/-- a number as the machine has it -/
def en_wr (x : Int) : Int := (Int32.ofInt x).toInt
def en_wl (x : Int) : Int := (Int64.ofInt x).toInt
def en_rng (x : Int) : Prop := -2147483648 ≤ x ∧ x < 2147483648
/-- writing -/
def en_wI (M : Mm) (a j : Nat) (x : Int) : Mm := (fun b => if b = a then (fun i => if i = j then x else M.1 a i) else M.1 b, M.2)
def en_wL (M : Mm) (a j : Nat) (x : Int) : Mm := (M.1, fun b => if b = a then (fun i => if i = j then x else M.2 a i) else M.2 b)
def en_cI (M : Mm) (a0 a1 sp dp n : Nat) : Mm := (fun b => if b = a1 then va_cpy (M.1 a0) (M.1 a1) sp dp n else M.1 b, M.2)
def en_cL (M : Mm) (a0 a1 sp dp n : Nat) : Mm := (M.1, fun b => if b = a1 then va_cpy (M.2 a0) (M.2 a1) sp dp n else M.2 b)
/-- a value as the machine has it: ad where the places lie, cd the constants -/
def en_rv (ad : Nat → Nat) (cd : Nat → Nat → Nat) : AV → Value
  | .inl i => .int (Int32.ofInt i)
  | .inr (.inl j) => .long (Int64.ofInt j)
  | .inr (.inr (0, _, _)) => .null
  | .inr (.inr (1, _, a)) => .ref (ad a)
  | .inr (.inr (2, _, a)) => .ref (ad a)
  | .inr (.inr (3, _, a)) => .ref (ad a)
  | .inr (.inr (4, _, a)) => .ref (ad a)
  | .inr (.inr (5, _, a)) => .ref (ad a)
  | .inr (.inr (6, n, _)) => .ref (cd 6 n)
  | .inr (.inr (7, n, _)) => .ref (cd 7 n)
  | .inr (.inr (8, n, _)) => .ref (cd 8 n)
  | .inr (.inr (9, _, _)) => .ref (cd 9 0)
  | .inr (.inr (_, _, _)) => (match cd 10 0 with | 0 => .null | t + 1 => .ref t)
/-- which places there are -/
def en_pl (M : Mm) : List Nat := List.range 121 ++ ((if M.1 84 25 = 0 then [] else (List.range 37).map (121 + ·)) ++ (if M.1 84 24 = 0 then [] else (List.range 37).map (158 + ·)))
/-- a value that may stand there -/
def en_ok (sL : Nat) (M : Mm) : AV → Prop
  | .inr (.inr (0, _, _)) => True
  | .inr (.inr (k, n, a)) => (k ≤ 5 ∧ en_lay[a]? = some (k, n) ∧ a ∈ en_pl M) ∨ (k = 6 ∧ n < 4) ∨ (k = 7 ∧ n < 9) ∨ (k = 8 ∧ n < 9) ∨ (k = 9 ∧ n + 1 = sL) ∨ k = 10
  | _ => True
def en_fv (ad : Nat → Nat) (M : Mm) (a k : Nat) : Nat × Nat × Nat × Nat → Value
  | (2, _, _, off) => .ref (ad (a + off))
  | (3, _, _, off) => (match Nat.beq a 84 with | true => if M.1 a k = 0 then .null else .ref (ad (a + off)) | false => .null)
  | _ => .int (Int32.ofInt (M.1 a k))
def en_fs (ad : Nat → Nat) (M : Mm) (a c : Nat) : List Value := ((en_ft.getD c []).zipIdx).map (fun q => en_fv ad M a q.2 q.1)
/-- the cell at a place -/
def en_cell (ad : Nat → Nat) (cs : Nat → ClassId) (M : Mm) (a : Nat) : va_E :=
  match en_lay.getD a (0, 0) with
  | (1, c) => .inr (c, en_fs ad M a c)
  | (2, n) => .inl (cs 0, n, .inl (fun j => Int32.ofInt (M.1 a j)))
  | (3, n) => .inl (cs 1, n, .inl (fun j => Int32.ofInt (M.1 a j)))
  | (4, n) => .inl (cs 2, n, .inr (.inl (fun j => Int64.ofInt (M.2 a j))))
  | (_, n) => let r := en_ra.getD n (0, 0, 0, 0, 0, 0); .inl (cs r.2.2.2.2.2, r.1, .inr (.inr (.inr (.inr (fun j => if j < r.1 then some (ad (a + r.2.2.2.1 + r.2.2.2.2.1 * j)) else none)))))
def en_wd (ad : Nat → Nat) (cs : Nat → ClassId) (M : Mm) : va_W := (en_pl M).map (fun a => (ad a, en_cell ad cs M a))
def en_tys (cs : Nat → ClassId) : List (ClassId × FieldType) := [(cs 0, .int), (cs 1, .boolean), (cs 2, .long), (cs 3, .object "TownRiverBeast$Shelf"), (cs 4, .array .int), (cs 5, .array .long)]
/-- the nest's words -/
def en_nest : List Cond := [.methodLinkNest "TownRiverBeast$Shelf" 25 yX5_within "TownRiverBeast", .methodLinkNest "TownRiverBeast$Evening" 75 yX5_within "TownRiverBeast", .methodLinkNest "TownRiverBeast$Reader" 52 yX5_within "TownRiverBeast", .fieldLinkNest "TownRiverBeast$Reader" 139 "TownRiverBeast" "ASK_LEAST" "[I" "TownRiverBeast", .fieldLinkNest "TownRiverBeast$Reader" 142 "TownRiverBeast" "ASK_MOST" "[I" "TownRiverBeast", .arrayOver (.array .int), .arrayOver (.array .long)]
def en_ln (i : Nat) : Nat := (en_by.getD i []).length
/-- the constants: static rows, String's static, the formatter, Strings, nest words -/
def en_K (cd : Nat → Nat → Nat) (A : Nat → Prop) (U : State) (H : Heap) : Prop :=
  (∀ i : Nat, i < 4 → va_Z "TownRiverBeast" (en_sn.getD i "") "[I" (.ref (cd 6 i)) A U H ∧ va_T .int (cd 6 i) ((en_sv.getD i []).length) (fun j => .int (Int32.ofInt ((en_sv.getD i []).getD j 0))) A U H) ∧
  va_Z "java/lang/String" "COMPACT_STRINGS" "Z" (.int 1) A U H ∧
  va_Z "jdk/internal/util/Preconditions" "SIOOBE_FORMATTER" "Ljava/util/function/BiFunction;" (match cd 10 0 with | 0 => .null | t + 1 => .ref t) A U H ∧
  (∀ q ∈ en_sr, vk_R (en_cn.getD q.1 "") q.2.1 (en_tx.getD q.2.2 "") (cd 7 q.2.2) U) ∧
  vk_S 9 (en_by.map List.length) (en_by.map (fun l => l.map Int32.ofInt)) (cd 7) (cd 8) A U H ∧
  ∀ w ∈ en_nest, va_Nw w U
/-- the world at a state -/
def en_Wd (ad : Nat → Nat) (cd : Nat → Nat → Nat) (D : va_G) (cs : Nat → ClassId) (M : Mm) (sz : Nat) (U : State) : Prop :=
  U.heap.size = sz ∧ va_P D vwCl (en_wd ad cs M) U.heap ∧ va_K D vwCl (en_tys cs) U ∧ va_D (fun _ => True) (en_wd ad cs M) ∧ en_K cd (va_A (en_wd ad cs M) sz) U U.heap
def en_agree (ad ad' : Nat → Nat) (M M' : Mm) : Prop := ∀ a, a ∈ en_pl M → a ∈ en_pl M' ∧ ad' a = ad a
def en_Q (post : Option AV → Mm → Prop) (ad : Nat → Nat) (cd : Nat → Nat → Nat) (D : va_G) (cs : Nat → ClassId) (M : Mm) (sz : Nat) : Array Value → State → Outcome → State → Prop := fun _ st o t =>
  (∃ (r : Option AV) (M' : Mm) (ad' : Nat → Nat), o = .returned (r.map (en_rv ad' cd)) ∧ post r M' ∧ (∀ v, r = some v → en_ok 0 M' v) ∧ en_agree ad ad' M M' ∧ va_P D vwCl (en_wd ad' cs M') t.heap ∧ va_D (va_A (en_wd ad cs M) sz) (en_wd ad' cs M')) ∧ va_F (va_A (en_wd ad cs M) sz) st t
def en_rm (h bu : Nat) : Room := { frames := h, cells := 37 * bu, slots := 932 * bu, locals := 64 * h }
/-- a method's contract: height h, at most bu new blocks -/
def en_Ct (h bu k : Nat) (as : List AV) (M : Mm) (post : Option AV → Mm → Prop) : Prop :=
  ∀ (l : Launch) (ad : Nat → Nat) (cd : Nat → Nat → Nat) (D : va_G) (cs : Nat → ClassId) (sz : Nat), (∀ v ∈ as, en_ok 0 M v) →
    Met l (en_m k).1 (en_ws k) (en_rm h bu) (va_Pc (as.map (en_rv ad cd)) (en_Wd ad cd D cs M sz)) (en_Q post ad cd D cs M sz) (37 * bu) (932 * bu) (va_A (en_wd ad cs M) sz)
/-- numbers of the machine's operations -/
def en_and (a b : Int) : Int := (Int32.ofInt a &&& Int32.ofInt b).toInt
def en_or (a b : Int) : Int := (Int32.ofInt a ||| Int32.ofInt b).toInt
def en_xor (a b : Int) : Int := (Int32.ofInt a ^^^ Int32.ofInt b).toInt
def en_shl (a b : Int) : Int := (Int32.ofInt a <<< (Int32.ofInt b &&& 31)).toInt
def en_shr (a b : Int) : Int := (Int32.ofInt a >>> (Int32.ofInt b &&& 31)).toInt
def en_ushr (a b : Int) : Int := (((Int32.ofInt a).toUInt32 >>> ((Int32.ofInt b).toUInt32 &&& Int32.toUInt32 31)).toInt32).toInt
def en_div (a b : Int) : Int := (Int32.ofInt a / Int32.ofInt b).toInt
def en_rem (a b : Int) : Int := (Int32.ofInt a - Int32.ofInt a / Int32.ofInt b * Int32.ofInt b).toInt
def en_i2b (a : Int) : Int := ((Int32.ofInt a).toInt8.toInt32).toInt
def en_i2s (a : Int) : Int := ((Int32.ofInt a).toInt16.toInt32).toInt
def en_i2c (a : Int) : Int := (((Int32.ofInt a).toUInt32 % 65536).toInt32).toInt
def en_lshl (a b : Int) : Int := (Int64.ofInt a <<< ((Int32.ofInt b).toInt64 &&& 63)).toInt
def en_lor (a b : Int) : Int := (Int64.ofInt a ||| Int64.ofInt b).toInt
def en_land (a b : Int) : Int := (Int64.ofInt a &&& Int64.ofInt b).toInt
def en_lcmp (a b : Int) : Int := if en_wl b < en_wl a then 1 else if en_wl a = en_wl b then 0 else -1
def en_if (b : Bool) (P : Prop) : Prop := match b with | true => P | false => False
def en_cat : AV → Nat
  | .inr (.inl _) => 2
  | _ => 1
def en_n9 : AV → Bool
  | .inr (.inr (9, _, _)) => false
  | _ => true
def en_sum (st : List AV) : Nat := (st.map en_cat).sum
/-- reading a local -/
def en_ld (ls : AL) (j : Nat) (k : AV → Prop) : Prop := match ls.getD j none with
  | some v => k v
  | none => False
def en_sto (ls : AL) (j : Nat) : Bool := Nat.blt j ls.length && (match j with | 0 => true | i + 1 => (match ls.getD i none with | some (.inr (.inl _)) => false | _ => true))
def en_pop : Nat → List AV → List AV → Option (List AV × List AV)
  | 0, acc, st => some (acc, st)
  | n + 1, acc, v :: st => en_pop n (v :: acc) st
  | _ + 1, _, [] => none
/-- a place in a row -/
def en_ix (i : Int) (n : Nat) (k : Nat → Prop) : Prop := ∃ j : Nat, i = (j : Int) ∧ j < n ∧ k j
def en_cmp : ClassFile.Cond → Int → Int → Prop
  | .eq, a, b => en_wr a = en_wr b
  | .ne, a, b => ¬ en_wr a = en_wr b
  | .lt, a, b => en_wr a < en_wr b
  | .ge, a, b => en_wr b ≤ en_wr a
  | .gt, a, b => en_wr b < en_wr a
  | .le, a, b => en_wr a ≤ en_wr b
/-- a switch: from place lo on -/
def en_tb (x lo : Int) (K : Nat → Prop) (d : Nat) : List Nat → Prop
  | [] => K d
  | t :: ts => (x = lo → K t) ∧ (¬ x = lo → en_tb x (lo + 1) K d ts)
abbrev AK : Type := AL → List AV → Mm → Nat → Prop
/-- what one instruction asks, k what the next ones ask, K what a jump's place asks -/
def en_st (h : Nat) (rt : Option FieldType) (sc : Nat × (Nat → Int)) (K : Nat → AK) (post : Option AV → Mm → Prop) (i : AI) (k : AK) (ls : AL) (st : List AV) (M : Mm) (bu : Nat) : Prop :=
  match i with
  | (.iconst n, _) => k ls (.inl n :: st) M bu
  | (.bipush n, _) => k ls (.inl n :: st) M bu
  | (.sipush n, _) => k ls (.inl n :: st) M bu
  | (.lconst n, _) => k ls (.inr (.inl (n : Nat)) :: st) M bu
  | (.ldc _, 0, _, v, _) => k ls (.inl v :: st) M bu
  | (.ldc _, _, n, _, _) => en_if (Nat.blt n 9) (k ls (.inr (.inr (7, n, 0)) :: st) M bu)
  | (.ldc_w _, _, _, v, _) => k ls (.inl v :: st) M bu
  | (.ldc2_w _, _, _, v, _) => k ls (.inr (.inl v) :: st) M bu
  | (.iload_n j, _) => en_ld ls j (fun v => match v with | .inl x => k ls (.inl x :: st) M bu | _ => False)
  | (.iload j, _) => en_ld ls j (fun v => match v with | .inl x => k ls (.inl x :: st) M bu | _ => False)
  | (.aload_n j, _) => en_ld ls j (fun v => match v with | .inr (.inr (c, n, a)) => en_if (Nat.ble 1 c && Nat.ble c 9) (k ls (.inr (.inr (c, n, a)) :: st) M bu) | _ => False)
  | (.aload j, _) => en_ld ls j (fun v => match v with | .inr (.inr (c, n, a)) => en_if (Nat.ble 1 c && Nat.ble c 9) (k ls (.inr (.inr (c, n, a)) :: st) M bu) | _ => False)
  | (.lload_n j, _) => en_ld ls j (fun v => match v with | .inr (.inl x) => k ls (.inr (.inl x) :: st) M bu | _ => False)
  | (.lload j, _) => en_ld ls j (fun v => match v with | .inr (.inl x) => k ls (.inr (.inl x) :: st) M bu | _ => False)
  | (.istore_n j, _) => (match st with | .inl x :: r => en_if (en_sto ls j) (k (ls.set j (some (.inl x))) r M bu) | _ => False)
  | (.istore j, _) => (match st with | .inl x :: r => en_if (en_sto ls j) (k (ls.set j (some (.inl x))) r M bu) | _ => False)
  | (.astore_n j, _) => (match st with | .inr (.inr (1, n, a)) :: r => en_if (en_sto ls j) (k (ls.set j (some (.inr (.inr (1, n, a))))) r M bu) | .inr (.inr (2, n, a)) :: r => en_if (en_sto ls j) (k (ls.set j (some (.inr (.inr (2, n, a))))) r M bu) | _ => False)
  | (.astore j, _) => (match st with | .inr (.inr (1, n, a)) :: r => en_if (en_sto ls j) (k (ls.set j (some (.inr (.inr (1, n, a))))) r M bu) | .inr (.inr (2, n, a)) :: r => en_if (en_sto ls j) (k (ls.set j (some (.inr (.inr (2, n, a))))) r M bu) | _ => False)
  | (.iinc j n, _) => en_ld ls j (fun v => match v with | .inl x => en_if (en_sto ls j) (k (ls.set j (some (.inl (x + n)))) st M bu) | _ => False)
  | (.iadd, _) => (match st with | .inl b :: .inl a :: r => k ls (.inl (a + b) :: r) M bu | _ => False)
  | (.isub, _) => (match st with | .inl b :: .inl a :: r => k ls (.inl (a - b) :: r) M bu | _ => False)
  | (.imul, _) => (match st with | .inl b :: .inl a :: r => k ls (.inl (a * b) :: r) M bu | _ => False)
  | (.ineg, _) => (match st with | .inl a :: r => k ls (.inl (-a) :: r) M bu | _ => False)
  | (.iand, _) => (match st with | .inl b :: .inl a :: r => k ls (.inl (en_and a b) :: r) M bu | _ => False)
  | (.ior, _) => (match st with | .inl b :: .inl a :: r => k ls (.inl (en_or a b) :: r) M bu | _ => False)
  | (.ixor, _) => (match st with | .inl b :: .inl a :: r => k ls (.inl (en_xor a b) :: r) M bu | _ => False)
  | (.ishl, _) => (match st with | .inl b :: .inl a :: r => k ls (.inl (en_shl a b) :: r) M bu | _ => False)
  | (.ishr, _) => (match st with | .inl b :: .inl a :: r => k ls (.inl (en_shr a b) :: r) M bu | _ => False)
  | (.iushr, _) => (match st with | .inl b :: .inl a :: r => k ls (.inl (en_ushr a b) :: r) M bu | _ => False)
  | (.idiv, _) => (match st with | .inl b :: .inl a :: r => ¬ en_wr b = 0 ∧ k ls (.inl (en_div a b) :: r) M bu | _ => False)
  | (.irem, _) => (match st with | .inl b :: .inl a :: r => ¬ en_wr b = 0 ∧ k ls (.inl (en_rem a b) :: r) M bu | _ => False)
  | (.i2l, _) => (match st with | .inl a :: r => k ls (.inr (.inl (en_wr a)) :: r) M bu | _ => False)
  | (.l2i, _) => (match st with | .inr (.inl a) :: r => k ls (.inl a :: r) M bu | _ => False)
  | (.i2b, _) => (match st with | .inl a :: r => k ls (.inl (en_i2b a) :: r) M bu | _ => False)
  | (.i2s, _) => (match st with | .inl a :: r => k ls (.inl (en_i2s a) :: r) M bu | _ => False)
  | (.i2c, _) => (match st with | .inl a :: r => k ls (.inl (en_i2c a) :: r) M bu | _ => False)
  | (.lshl, _) => (match st with | .inl b :: .inr (.inl a) :: r => k ls (.inr (.inl (en_lshl a b)) :: r) M bu | _ => False)
  | (.lor, _) => (match st with | .inr (.inl b) :: .inr (.inl a) :: r => k ls (.inr (.inl (en_lor a b)) :: r) M bu | _ => False)
  | (.land, _) => (match st with | .inr (.inl b) :: .inr (.inl a) :: r => k ls (.inr (.inl (en_land a b)) :: r) M bu | _ => False)
  | (.lcmp, _) => (match st with | .inr (.inl b) :: .inr (.inl a) :: r => k ls (.inl (en_lcmp a b) :: r) M bu | _ => False)
  | (.dup, _) => (match st with | v :: r => en_if (Nat.beq (en_cat v) 1) (k ls (v :: v :: r) M bu) | _ => False)
  | (.pop, _) => (match st with | v :: r => en_if (Nat.beq (en_cat v) 1) (k ls r M bu) | _ => False)
  | (.dup_x1, _) => (match st with | v :: w :: r => en_if (Nat.beq (en_cat v) 1 && Nat.beq (en_cat w) 1) (k ls (v :: w :: v :: r) M bu) | _ => False)
  | (.dup_x2, _) => (match st with | v :: w :: u :: r => en_if (Nat.beq (en_cat v) 1 && (Nat.beq (en_cat w) 1 && Nat.beq (en_cat u) 1)) (k ls (v :: w :: u :: v :: r) M bu) | _ => False)
  | (.dup2, _) => (match st with | v :: w :: r => en_if (Nat.beq (en_cat v) 1 && Nat.beq (en_cat w) 1) (k ls (v :: w :: v :: w :: r) M bu) | _ => False)
  | (.goto _, _, _, _, ts) => K (ts.getD 0 0) ls st M bu
  | (.nop, t, _) => K t ls st M bu
  | (.ifCond c _, _, _, _, ts) => (match st with | .inl a :: r => (en_cmp c a 0 → K (ts.getD 0 0) ls r M bu) ∧ (¬ en_cmp c a 0 → k ls r M bu) | _ => False)
  | (.if_icmp c _, _, _, _, ts) => (match st with | .inl b :: .inl a :: r => (en_cmp c a b → K (ts.getD 0 0) ls r M bu) ∧ (¬ en_cmp c a b → k ls r M bu) | _ => False)
  | (.ifnonnull _, _, _, _, ts) => (match st with | .inr (.inr (0, _, _)) :: r => k ls r M bu | .inr (.inr (1, _, _)) :: r => K (ts.getD 0 0) ls r M bu | _ => False)
  | (.tableswitch _ lo _ _, _, _, _, ts) => (match st with | .inl a :: r => en_tb (en_wr a) lo (fun t => K t ls r M bu) (ts.getD 0 0) (ts.drop 1) | _ => False)
  | (.getfield _, c, s, _, _) => (match st with
      | .inr (.inr (1, c', a)) :: r => en_if (Nat.beq c' c) (match (en_ft.getD c []).getD s (9, 0, 0, 0) with
          | (0, _) => k ls (.inl (M.1 a s) :: r) M bu
          | (1, _) => k ls (.inl (M.1 a s) :: r) M bu
          | (2, tk, tn, off) => k ls (.inr (.inr (tk, tn, a + off)) :: r) M bu
          | (3, tk, tn, off) => a = 84 ∧ (M.1 a s = 0 → k ls (.inr (.inr (0, 0, 0)) :: r) M bu) ∧ (¬ M.1 a s = 0 → k ls (.inr (.inr (tk, tn, a + off)) :: r) M bu)
          | _ => False)
      | .inr (.inr (7, n, _)) :: r => en_if (Nat.beq 100 c) (match s with | 0 => k ls (.inr (.inr (8, n, 0)) :: r) M bu | _ => k ls (.inl 0 :: r) M bu)
      | _ => False)
  | (.putfield _, c, s, _, _) => (match st with
      | .inl x :: .inr (.inr (1, c', a)) :: r => en_if (Nat.beq c' c) (match (en_ft.getD c []).getD s (9, 0, 0, 0) with
          | (0, _) => k ls r (en_wI M a s x) bu
          | (1, _) => (x = 0 ∨ x = 1) ∧ k ls r (en_wI M a s x) bu
          | _ => False)
      | _ => False)
  | (.getstatic _, n, _) => (match n with | 4 => k ls (.inl 1 :: st) M bu | 5 => k ls (.inr (.inr (10, 0, 0)) :: st) M bu | n => en_if (Nat.blt n 4) (k ls (.inr (.inr (6, n, 0)) :: st) M bu))
  | (.iaload, _) => (match st with
      | .inl i :: .inr (.inr (2, n, a)) :: r => en_ix i n (fun j => k ls (.inl (M.1 a j) :: r) M bu)
      | .inl i :: .inr (.inr (6, n, _)) :: r => en_ix i ((en_sv.getD n []).length) (fun j => k ls (.inl ((en_sv.getD n []).getD j 0) :: r) M bu)
      | .inl i :: .inr (.inr (9, n, _)) :: r => en_ix i n (fun j => k ls (.inl (sc.2 j) :: r) M bu)
      | _ => False)
  | (.baload, _) => (match st with
      | .inl i :: .inr (.inr (3, n, a)) :: r => en_ix i n (fun j => k ls (.inl (M.1 a j) :: r) M bu)
      | .inl i :: .inr (.inr (8, n, _)) :: r => en_ix i (en_ln n) (fun j => k ls (.inl ((en_by.getD n []).getD j 0) :: r) M bu)
      | _ => False)
  | (.laload, _) => (match st with | .inl i :: .inr (.inr (4, n, a)) :: r => en_ix i n (fun j => k ls (.inr (.inl (M.2 a j)) :: r) M bu) | _ => False)
  | (.aaload, _) => (match st with | .inl i :: .inr (.inr (5, n, a)) :: r => en_ix i (en_ra.getD n (0, 0, 0, 0, 0, 0)).1 (fun j => k ls (.inr (.inr ((en_ra.getD n (0, 0, 0, 0, 0, 0)).2.1, (en_ra.getD n (0, 0, 0, 0, 0, 0)).2.2.1, a + (en_ra.getD n (0, 0, 0, 0, 0, 0)).2.2.2.1 + (en_ra.getD n (0, 0, 0, 0, 0, 0)).2.2.2.2.1 * j)) :: r) M bu) | _ => False)
  | (.iastore, _) => (match st with | .inl x :: .inl i :: .inr (.inr (2, n, a)) :: r => en_ix i n (fun j => k ls r (en_wI M a j x) bu) | _ => False)
  | (.bastore, _) => (match st with | .inl x :: .inl i :: .inr (.inr (3, n, a)) :: r => (x = 0 ∨ x = 1) ∧ en_ix i n (fun j => k ls r (en_wI M a j x) bu) | _ => False)
  | (.lastore, _) => (match st with | .inr (.inl x) :: .inl i :: .inr (.inr (4, n, a)) :: r => en_ix i n (fun j => k ls r (en_wL M a j x) bu) | _ => False)
  | (.arraylength, _) => (match st with
      | .inr (.inr (2, n, _)) :: r => k ls (.inl (n : Nat) :: r) M bu
      | .inr (.inr (3, n, _)) :: r => k ls (.inl (n : Nat) :: r) M bu
      | .inr (.inr (4, n, _)) :: r => k ls (.inl (n : Nat) :: r) M bu
      | .inr (.inr (6, n, _)) :: r => k ls (.inl ((en_sv.getD n []).length : Nat) :: r) M bu
      | .inr (.inr (8, n, _)) :: r => k ls (.inl (en_ln n : Nat) :: r) M bu
      | .inr (.inr (9, n, _)) :: r => k ls (.inl (n : Nat) :: r) M bu
      | _ => False)
  | (.invokestatic _, m, n, _) => (match Nat.ble 1000 m with
      | true => (match m with
        | 1000 => (match st with
          | .inl n :: .inl dp :: .inr (.inr (2, n1, a1)) :: .inl sp :: .inr (.inr (2, n0, a0)) :: r => ∃ n' dp' sp' : Nat, n = n' ∧ dp = dp' ∧ sp = sp' ∧ sp' + n' ≤ n0 ∧ dp' + n' ≤ n1 ∧ en_if (Nat.ble (en_sum r) 8 && Nat.ble 1 h) (k ls r (en_cI M a0 a1 sp' dp' n') bu)
          | .inl n :: .inl dp :: .inr (.inr (4, n1, a1)) :: .inl sp :: .inr (.inr (4, n0, a0)) :: r => ∃ n' dp' sp' : Nat, n = n' ∧ dp = dp' ∧ sp = sp' ∧ sp' + n' ≤ n0 ∧ dp' + n' ≤ n1 ∧ en_if (Nat.ble (en_sum r) 8 && Nat.ble 1 h) (k ls r (en_cL M a0 a1 sp' dp' n') bu)
          | _ => False)
        | 1001 => (match st with | .inl b :: .inl a :: r => en_if (Nat.ble (en_sum r) 8 && Nat.ble 1 h) (k ls (.inl (if en_wr a < en_wr b then b else a) :: r) M bu) | _ => False)
        | 1002 => (match st with | .inl b :: .inl a :: r => en_if (Nat.ble (en_sum r) 8 && Nat.ble 1 h) (k ls (.inl (if en_wr b < en_wr a then b else a) :: r) M bu) | _ => False)
        | _ => False)
      | false => (match en_pop n [] st with
        | some (as, r) => en_if (Nat.ble (en_sum r) 8 && as.all en_n9) (∃ h' b', h' < h ∧ b' ≤ bu ∧ en_Ct h' b' m as M (fun v M' => match v with | some v => k ls (v :: r) M' (bu - b') | none => k ls r M' (bu - b')))
        | none => False))
  | (.invokevirtual _, m, n, _) => (match en_pop n [] st with
      | some (.inr (.inr (1, c, a)) :: as, r) => en_if (Nat.ble (en_sum r) 8 && (Nat.beq (en_m m).2.2.2.2.2.2 c && as.all en_n9)) (∃ h' b', h' < h ∧ b' ≤ bu ∧ en_Ct h' b' m (.inr (.inr (1, c, a)) :: as) M (fun v M' => match v with | some v => k ls (v :: r) M' (bu - b') | none => k ls r M' (bu - b')))
      | some (.inr (.inr (7, n, a)) :: as, r) => en_if (Nat.ble (en_sum r) 8 && (Nat.beq (en_m m).2.2.2.2.2.2 10 && as.all en_n9)) (∃ h' b', h' < h ∧ b' ≤ bu ∧ en_Ct h' b' m (.inr (.inr (7, n, a)) :: as) M (fun v M' => match v with | some v => k ls (v :: r) M' (bu - b') | none => k ls r M' (bu - b')))
      | _ => False)
  | (.ireturn, _) => (match st with
      | [.inl x] => (match rt with
          | some .int => post (some (.inl x)) M
          | some .boolean => (x = 0 ∨ x = 1) ∧ post (some (.inl x)) M
          | some .byte => (0 ≤ x ∧ x < 128) ∧ post (some (.inl x)) M
          | some .char => (0 ≤ x ∧ x < 128) ∧ post (some (.inl x)) M
          | _ => False)
      | _ => False)
  | (.lreturn, _) => (match st with | [.inr (.inl x)] => (match rt with | some .long => post (some (.inr (.inl x))) M | _ => False) | _ => False)
  | (.areturn, _) => (match st with | [.inr (.inr (1, n, a))] => (match rt with | some (.object _) => post (some (.inr (.inr (1, n, a)))) M | _ => False) | _ => False)
  | (.return_, _) => (match st with | [] => (match rt with | none => post none M | _ => False) | _ => False)
  | _ => False
def en_vc (h : Nat) (rt : Option FieldType) (sc : Nat × (Nat → Int)) (K : Nat → AK) (post : Option AV → Mm → Prop) : List AI → AK
  | [] => fun _ _ _ _ => False
  | i :: is => en_st h rt sc K post i (en_vc h rt sc K post is)
