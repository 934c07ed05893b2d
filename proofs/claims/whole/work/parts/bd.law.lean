/-! the law: its stretches -/
def R_law : String := "TownRiverBeastLaw"
def lw_P (b : Addr) (xs : List Int32) (args : Array Value) (s : State) : Prop := args = #[.ref b] ∧ s.IntsAt b xs ∧ xs.length ≤ 3072 ∧ (Jvm.Cond.and given_1 narrow_1).before args s = true
def lw_Q (_ : Array Value) (s : State) (o : Outcome) (t : State) : Prop := o = .returned (some (.int 1)) ∧ Framed s o t [] 600000 7302250
def lw_Z (below : List Frame) (a : Array Value) (s : State) : State → Prop := fun t => ∃ o, t.status = .running ∧ Ended t below o ∧ lw_Q a s o t
/-- the law's own end, with 1 on the stack, nothing written that was there before, its room as the claim has it -/
theorem lw_ret {p : Program} {l : Launch} {e : Env} {s : State} {m : MethodId} {below : List Frame} {meth : Method} {c : Code} {b : Nat} (hx : p.tables.exec = Jvm.exec) (hb : c.code = code) (hr : meth.sig.returnType = ret) (hlocks : meth.locks = false) {pc : Nat} {H : Heap} {ls : Array Slot} (hdg : decode code pc = .ok (.ireturn, 1)) : W p l e room_1 s m #[Value.ref b] below meth c H [] 600000 7302250 (lw_Z below #[Value.ref b] s) (F0 m pc ls [.int 1]) := by
  intro T hT X
  obtain ⟨fs, hret, hrun, hended, hW, hframe⟩ := X.leave (v := some (.int 1)) (hlocks := hlocks) (fun h => by rw [hr] at h; cases h)
  have hmeth' : T.vm.method? m = some meth := X.method'
  refine ⟨T.setFrames fs, ?_, .returned (some (.int 1)), hrun, hended, rfl, ⟨_, rfl⟩, hW, hframe⟩
  jvm_step X.here [X.here.top, hx, hb, hdg, hmeth', hr, ret, narrow_b1]
  (try refine ⟨rfl, ?_⟩); (try refine ⟨rfl, ?_⟩)
  first | (intro acts; rw [hret _ acts rfl rfl rfl]) | rw [hret _ _ rfl rfl rfl]
  exact Steps.refl _
/-- what holds at the law's entry: the machine, the code, the tables' words (any of lw_tbl by 'hts w (by decide +kernel)'), the script of L ints xs at the cell b, what the Statement gives of the start (any of its parts by flat_of_before) -/
def lw_At (p : Program) (s : State) (m : MethodId) (meth : Method) (c : Code) (b L : Nat) (xs : Nat → Int32) : Prop :=
  p.tables.exec = Jvm.exec ∧ c.code = code ∧ meth.sig.returnType = ret ∧ c.maxLocals = 4 ∧ s.vm.findClass R_law = some m.cls ∧ (∀ w ∈ lw_tbl, w.before #[Value.ref b] s = true) ∧ va_X b L xs s s.heap ∧ b < s.heap.size ∧ meth.locks = false ∧ (Jvm.Cond.and given_1 narrow_1).before #[Value.ref b] s = true
def lw_f (xs : Nat → Int32) : Nat → Int := fun j => (xs j).toInt
theorem lw_rg (xs : Nat → Int32) (j : Nat) : -2147483648 ≤ lw_f xs j ∧ lw_f xs j < 2147483648 := ⟨Int32.le_toInt _, Int32.toInt_lt _⟩
theorem lw_rl (x y : Int) : -9223372036854775808 ≤ en_lor x y ∧ en_lor x y < 9223372036854775808 := ⟨Int64.le_toInt _, Int64.toInt_lt _⟩
def lw_C (p : Program) (s : State) (m : MethodId) (meth : Method) (c : Code) (b L : Nat) (xs : Nat → Int32) (cd : Nat → Nat → Nat) (D : va_G) (cs : Nat → ClassId) : Prop :=
  en_Fx p room_1 s m #[Value.ref b] c code R_law 4 60 20 (fun q => s.heap.size ≤ q) cd D cs (L + 1, lw_f xs) ∧ meth.sig.returnType = ret ∧ meth.locks = false
def lw_W (p : Program) (l : Launch) (e : Env) (s : State) (m : MethodId) (below : List Frame) (meth : Method) (c : Code) (b L : Nat) (cd : Nat → Nat → Nat) (D : va_G) (cs : Nat → ClassId) (ad0 : Nat → Nat) (pc : Nat) : AK :=
  en_At p l e room_1 s m #[Value.ref b] below meth c (lw_Z below #[Value.ref b] s) 4 (fun q => s.heap.size ≤ q) cd D cs ad0 cx_M (L + 1) 20 pc
abbrev lw_ls (L n : Nat) : AL := [some (.inr (.inr (9, L, 0))), some (.inr (.inr (1, 5, 0))), some (.inr (.inr (1, 6, 84))), some (.inl ((n : Nat) : Int))]
section LW
variable {p : Program} {l : Launch} {e : Env} {s : State} {m : MethodId} {below : List Frame} {meth : Method} {c : Code} {b L : Nat} {xs : Nat → Int32} {cd : Nat → Nat → Nat} {D : va_G} {cs : Nat → ClassId} {ad0 : Nat → Nat}
theorem lw_st (C : lw_C p s m meth c b L xs cd D cs) {is : List AI} {pc : Nat} {ls : AL} {st : List AV} {M : Mm} {bu : Nat} (hok : en_okB 7 code pc is = true) (hs : en_vc 60 (some .boolean) (L + 1, lw_f xs) (lw_W p l e s m below meth c b L cd D cs ad0) (fun r _ => r = some (.inl 1)) is ls st M bu) : lw_W p l e s m below meth c b L cd D cs ad0 pc ls st M bu := by
  refine en_sound (sc := (L + 1, lw_f xs)) (K := lw_W p l e s m below meth c b L cd D cs ad0) (rt := some .boolean) (post := fun r _ => r = some (.inl 1)) C.1 rfl (fun _ _ _ _ _ h => h) ?_ is pc ls st M bu hok hs
  intro i pc ls st M bu hi hdg hs hb ad H locs lsA I
  obtain ⟨ins, x, y, v, ts⟩ := i
  cases ins
  all_goals (first | (cases hi; done) | skip)
  case ireturn =>
    dsimp only [en_st] at hs
    split at hs
    · rename_i x
      have hx : x = 1 := Sum.inl.inj (Option.some.inj hs.2)
      subst hx
      refine va_forget (fun q hq => I.2.2.2.2.2.2.2.1.2.2 q hq) ?_
      refine W.widen (k := 600000) (n := 7302250) (by omega) (by omega) ?_
      exact lw_ret C.1.1 C.1.2.1 C.2.1 C.2.2 hdg
    · exact hs.elim
  case lreturn =>
    dsimp only [en_st] at hs
    split at hs <;> exact hs.elim
  case areturn =>
    dsimp only [en_st] at hs
    split at hs <;> exact hs.elim
  case return_ =>
    dsimp only [en_st] at hs
    split at hs <;> exact hs.elim
end LW
