/-! contracts out of stretches -/
def en_sc0 : Nat × (Nat → Int) := (0, fun _ => 0)
/-- at pc of method k: the machine comes to an end with post -/
def en_AW (h bu0 k : Nat) (post : Option AV → Mm → Prop) (pc : Nat) : AK := fun ls st M bu =>
  ∀ (p : Program) (l : Launch) (e : Env) (s : State) (m : MethodId) (args : Array Value) (below : List Frame) (meth : Method) (c : Code) (ad0 : Nat → Nat) (cd : Nat → Nat → Nat) (D : va_G) (cs : Nat → ClassId) (M0 : Mm),
    en_Fx p (en_rm h bu0) s m args c (en_m k).2.1 (en_m k).1.cls (en_m k).2.2.1 h bu0 (va_A (en_wd ad0 cs M0) s.heap.size) cd D cs en_sc0 → meth.sig.returnType = (en_m k).2.2.2.1 → meth.locks = false →
    en_At p l e (en_rm h bu0) s m args below meth c (MQ below (en_Q post ad0 cd D cs M0 s.heap.size) args s (37 * bu0) (932 * bu0) (va_A (en_wd ad0 cs M0) s.heap.size)) (en_m k).2.2.1 (va_A (en_wd ad0 cs M0) s.heap.size) cd D cs ad0 M0 0 bu0 pc ls st M bu
theorem en_AW_intro {h bu0 k : Nat} {post : Option AV → Mm → Prop} {pc : Nat} {is : List AI} {rt : Option FieldType} {ls : AL} {st : List AV} {M : Mm} {bu : Nat} (hu : en_used.contains k = true) (hrt : (en_m k).2.2.2.1 = rt) (hok : en_okB (en_m k).2.2.2.2.2.2 (en_m k).2.1 pc is = true) (hs : en_vc h rt en_sc0 (en_AW h bu0 k post) post is ls st M bu) : en_AW h bu0 k post pc ls st M bu := by
  intro p l e s m args below meth c ad0 cd D cs M0 X hret hlocks
  obtain ⟨-, -, -, -, -, i6, -⟩ := en_minfo hu
  have ho : en_cn.getD (en_m k).2.2.2.2.2.2 "" = (en_m k).1.cls := by
    rw [List.getD_eq_getElem?_getD, i6]
    rfl
  refine en_sound (sc := en_sc0) (K := en_AW h bu0 k post) (rt := rt) X ho (fun t ls st M bu hq => hq p l e s m args below meth c ad0 cd D cs M0 X hret hlocks) ?_ is pc ls st M bu hok hs
  intro i pc ls st M bu hi hdg hs hb ad H locs lsA I
  rw [hrt] at hret
  obtain ⟨ins, x, y, v, ts⟩ := i
  have w1 : 37 * (bu0 - bu) ≤ 37 * bu0 := Nat.mul_le_mul_left 37 (Nat.sub_le bu0 bu)
  have w2 : 932 * (bu0 - bu) ≤ 932 * bu0 := Nat.mul_le_mul_left 932 (Nat.sub_le bu0 bu)
  cases ins
  all_goals (first | (cases hi; done) | skip)
  case ireturn =>
    dsimp only [en_st] at hs
    split at hs
    · rename_i x
      have fin : post (some (.inl x)) M → ∀ ty, meth.sig.returnType = some ty → narrow ty (.int (Int32.ofInt x)) = .int (Int32.ofInt x) → W p l e (en_rm h bu0) s m args below meth c H locs (37 * (bu0 - bu)) (932 * (bu0 - bu)) (MQ below (en_Q post ad0 cd D cs M0 s.heap.size) args s (37 * bu0) (932 * bu0) (va_A (en_wd ad0 cs M0) s.heap.size)) (F0 m pc lsA ([Sum.inl x].map (en_rv ad cd))) := by
        intro hp ty hty hn
        refine W.widen (k := 37 * bu0) (n := 932 * bu0) w1 w2 ?_
        exact W.zret X.1 X.2.1 hty hn (fun t ht hW => ⟨⟨some (.inl x), M, ad, rfl, hp, fun _ z => by cases z; trivial, I.2.2.2.2.2.2.2.2, by rw [ht]; exact I.2.2.2.2.2.1, I.2.2.2.2.2.2.1⟩, I.2.2.2.2.2.2.2.1.F ht⟩) I.2.2.2.2.2.2.2.1.2.2 hdg
      split at hs
      · exact fin hs _ hret rfl
      · refine fin hs.2 _ hret ?_
        rcases hs.1 with rfl | rfl <;> rfl
      · refine fin hs.2 _ hret ?_
        obtain ⟨n, rfl⟩ : ∃ n : Nat, x = n := ⟨x.toNat, by omega⟩
        have key : ∀ n : Nat, n < 128 → narrow .byte (.int (Int32.ofInt (n : Int))) = .int (Int32.ofInt (n : Int)) := by decide +kernel
        exact key n (by omega)
      · refine fin hs.2 _ hret ?_
        obtain ⟨n, rfl⟩ : ∃ n : Nat, x = n := ⟨x.toNat, by omega⟩
        have key : ∀ n : Nat, n < 128 → narrow .char (.int (Int32.ofInt (n : Int))) = .int (Int32.ofInt (n : Int)) := by decide +kernel
        exact key n (by omega)
      · exact hs.elim
    · exact hs.elim
  case lreturn =>
    dsimp only [en_st] at hs
    split at hs
    · rename_i x
      split at hs
      · refine W.widen (k := 37 * bu0) (n := 932 * bu0) w1 w2 ?_
        exact W.lret X.1 X.2.1 hret (fun t ht hW => ⟨⟨some (.inr (.inl x)), M, ad, rfl, hs, fun _ z => by cases z; trivial, I.2.2.2.2.2.2.2.2, by rw [ht]; exact I.2.2.2.2.2.1, I.2.2.2.2.2.2.1⟩, I.2.2.2.2.2.2.2.1.F ht⟩) I.2.2.2.2.2.2.2.1.2.2 hdg
      · exact hs.elim
    · exact hs.elim
  case areturn =>
    dsimp only [en_st] at hs
    split at hs
    · rename_i n a
      split at hs
      · refine W.widen (k := 37 * bu0) (n := 932 * bu0) w1 w2 ?_
        exact W.aret X.1 X.2.1 hret (Or.inl ⟨_, rfl⟩) (Or.inr ⟨ad a, rfl⟩) (fun t ht hW => ⟨⟨some (.inr (.inr (1, n, a))), M, ad, rfl, hs, fun _ z => by cases z; exact I.hd, I.2.2.2.2.2.2.2.2, by rw [ht]; exact I.2.2.2.2.2.1, I.2.2.2.2.2.2.1⟩, I.2.2.2.2.2.2.2.1.F ht⟩) I.2.2.2.2.2.2.2.1.2.2 hdg
      · exact hs.elim
    · exact hs.elim
  case return_ =>
    dsimp only [en_st] at hs
    split at hs
    · split at hs
      · refine W.widen (k := 37 * bu0) (n := 932 * bu0) w1 w2 ?_
        exact W.vret X.1 X.2.1 hret (fun t ht hW => ⟨⟨none, M, ad, rfl, hs, fun _ z => (by cases z), I.2.2.2.2.2.2.2.2, by rw [ht]; exact I.2.2.2.2.2.1, I.2.2.2.2.2.2.1⟩, I.2.2.2.2.2.2.2.1.F ht⟩) I.2.2.2.2.2.2.2.1.2.2 hdg
      · exact hs.elim
    · exact hs.elim
/-- the locals at a method's entry -/
def en_ent : List AV → AL
  | [] => []
  | .inr (.inl j) :: r => some (.inr (.inl j)) :: none :: en_ent r
  | v :: r => some v :: en_ent r
def en_en (as : List AV) (n : Nat) : AL := en_ent as ++ List.replicate (n - (en_ent as).length) none
theorem en_ent_len (ad : Nat → Nat) (cd : Nat → Nat → Nat) : ∀ as : List AV, (en_ent as).length = (lg_sl (as.map (en_rv ad cd))).length
  | [] => rfl
  | .inl x :: r => by
    show (en_ent r).length + 1 = _
    rw [en_ent_len ad cd r]
    simp [lg_sl, en_rv, Value.category]
  | .inr (.inl x) :: r => by
    show (en_ent r).length + 1 + 1 = _
    rw [en_ent_len ad cd r]
    simp [lg_sl, en_rv, Value.category]
  | .inr (.inr x) :: r => by
    show (en_ent r).length + 1 = _
    rw [en_ent_len ad cd r]
    have hc : (en_rv ad cd (.inr (.inr x))).category = 1 := en_cat_eq ad cd (.inr (.inr x))
    simp [lg_sl, hc]
theorem en_ent_args (ad : Nat → Nat) (cd : Nat → Nat → Nat) : ∀ (as : List AV) (i j : Nat) (v : AV), (en_ent as).getD i none = some v → v ∈ as ∧ (j + i, en_rv ad cd v) ∈ lv_args j (as.map (en_rv ad cd))
  | [], i, j, v, h => by simp [en_ent] at h
  | .inl x :: r, i, j, v, h => by
    cases i with
    | zero =>
      have : v = .inl x := (Option.some.inj h).symm
      subst this
      exact ⟨List.mem_cons_self, by simp [lv_args]⟩
    | succ i =>
      obtain ⟨h1, h2⟩ := en_ent_args ad cd r i (j + 1) v h
      refine ⟨List.mem_cons_of_mem _ h1, ?_⟩
      rw [show j + (i + 1) = j + 1 + i by omega]
      simp only [List.map_cons, lv_args]
      exact List.mem_cons_of_mem _ h2
  | .inr (.inl x) :: r, i, j, v, h => by
    match i, h with
    | 0, h =>
      have : v = .inr (.inl x) := (Option.some.inj h).symm
      subst this
      exact ⟨List.mem_cons_self, by simp [lv_args]⟩
    | 1, h => cases h
    | i + 2, h =>
      obtain ⟨h1, h2⟩ := en_ent_args ad cd r i (j + 2) v h
      refine ⟨List.mem_cons_of_mem _ h1, ?_⟩
      rw [show j + (i + 2) = j + 2 + i by omega]
      simp only [List.map_cons, lv_args]
      exact List.mem_cons_of_mem _ h2
  | .inr (.inr x) :: r, i, j, v, h => by
    have hc : (en_rv ad cd (.inr (.inr x))).category = 1 := en_cat_eq ad cd (.inr (.inr x))
    cases i with
    | zero =>
      have : v = .inr (.inr x) := (Option.some.inj h).symm
      subst this
      exact ⟨List.mem_cons_self, by simp [lv_args]⟩
    | succ i =>
      obtain ⟨h1, h2⟩ := en_ent_args ad cd r i (j + 1) v h
      refine ⟨List.mem_cons_of_mem _ h1, ?_⟩
      rw [show j + (i + 1) = j + 1 + i by omega]
      simp only [List.map_cons, lv_args, hc]
      exact List.mem_cons_of_mem _ h2
theorem en_Ct_of {h bu k n : Nat} {as : List AV} {M : Mm} {post : Option AV → Mm → Prop} (hu : en_used.contains k = true) (hn : (en_m k).2.2.1 = n) (hl : Nat.ble (en_ent as).length n = true) (hs : en_AW h bu k post 0 (en_en as n) [] M bu) : en_Ct h bu k as M post := by
  subst hn
  intro l ad cd D cs sz hok
  obtain ⟨-, -, -, -, i5, -, -⟩ := en_minfo hu
  have hle : (en_ent as).length ≤ (en_m k).2.2.1 := Nat.le_of_ble_eq_true hl
  refine Met.ofW (cc := (en_m k).2.1) (maxL := (en_m k).2.2.1) (ret := (en_m k).2.2.2.1) i5 rfl ?_
  intro p e s m args below meth c s₁ B hml hv
  obtain ⟨rfl, hsz, hP, hK, hD0, hC⟩ := hv
  subst hsz
  have hts := atoms_spec (ws := en_ws k) B.pre
  have hent := lv_entry (as.map (en_rv ad cd)) (n := (en_m k).2.2.1) (by rw [← en_ent_len ad cd]; exact hle)
  rw [lg_entry_eq]
  have X : en_Fx p (en_rm h bu) s m ((as.map (en_rv ad cd)).toArray) c (en_m k).2.1 (en_m k).1.cls (en_m k).2.2.1 h bu (va_A (en_wd ad cs M) s.heap.size) cd D cs en_sc0 := ⟨B.exec, B.bytes, hml, findClass_of_methodNamed B.named, fun w hw => hts w (List.mem_cons_of_mem _ hw), hK, hC, ⟨Nat.le_refl _, Nat.le_refl _, Nat.le_refl _, Nat.le_refl _⟩, fun q hq => Or.inr hq, fun L hL => by cases hL⟩
  have hW := hs p l e s m ((as.map (en_rv ad cd)).toArray) below meth c ad cd D cs M X B.returns B.notSynchronized (Nat.le_refl _) ad s.heap [] ((lg_sl (as.map (en_rv ad cd)) ++ List.replicate ((en_m k).2.2.1 - (lg_sl (as.map (en_rv ad cd))).length) Slot.unset).toArray) ⟨hent.1, hent.2.1, ?_, ?_, fun v hv => (by cases hv), hP, hD0.self, va_S.rf, fun a ha => ⟨ha, rfl⟩⟩
  · rw [Nat.sub_self] at hW
    exact hW
  · unfold en_en
    rw [List.length_append, List.length_replicate]
    omega
  · intro i v hv
    have hv2 : (en_ent as).getD i none = some v := by
      unfold en_en at hv
      rw [List.getD_eq_getElem?_getD] at hv ⊢
      by_cases hi : i < (en_ent as).length
      · rw [List.getElem?_append_left hi] at hv
        exact hv
      · rw [List.getElem?_append_right (by omega)] at hv
        cases hq : (List.replicate ((en_m k).2.2.1 - (en_ent as).length) (none : Option AV))[i - (en_ent as).length]? with
        | none => rw [hq] at hv; cases hv
        | some w =>
          rw [hq] at hv
          have := List.eq_of_mem_replicate (List.mem_of_getElem? hq)
          rw [this] at hv
          cases hv
    obtain ⟨h1, h2⟩ := en_ent_args ad cd as i 0 v hv2
    rw [Nat.zero_add] at h2
    exact ⟨hent.2.2 _ h2, hok v h1⟩
/-- using contracts -/
theorem en_Ct_mono {h bu k : Nat} {as : List AV} {M : Mm} {post post' : Option AV → Mm → Prop} (hc : en_Ct h bu k as M post) (hp : ∀ r M', post r M' → post' r M') : en_Ct h bu k as M post' := by
  intro l ad cd D cs sz hok
  have hM := hc l ad cd D cs sz hok
  intro p e g1 g2 g3 s m args below hf ha hP hK
  obtain ⟨n, o, z1, z2, z3, ⟨⟨⟨r, M', ad', h1, h2, h3⟩, h4⟩, h5⟩⟩ := hM p e g1 g2 g3 s m args below hf ha hP hK
  exact ⟨n, o, z1, z2, z3, ⟨⟨⟨r, M', ad', h1, hp r M' h2, h3⟩, h4⟩, h5⟩⟩
/-- a contract whose answer is told -/
theorem en_Ct_eq {h bu k : Nat} {as : List AV} {M M1 : Mm} {v : Option AV} {post : Option AV → Mm → Prop} (hc : en_Ct h bu k as M (fun r M' => r = v ∧ M' = M1)) (hp : post v M1) : en_Ct h bu k as M post := en_Ct_mono hc (fun r M' hq => by rw [hq.1, hq.2]; exact hp)
