/-! calls -/
theorem en_K_move {cd : Nat → Nat → Nat} {A B : Nat → Prop} {s U : State} {H : Heap} (hK : en_K cd A s s.heap) (hq : ∀ a : Nat, a < s.heap.size → ¬ A a → H[a]? = s.heap[a]?) (hAB : ∀ q, B q → A q) (hW : s.WarmedH U.vm) : en_K cd B U H := by
  obtain ⟨h1, h2, h3, h4, h5, h6⟩ := hK
  refine ⟨fun i hi => ⟨(((h1 i hi).1.kept hq).narrow hAB).moved hW.alike, (((h1 i hi).2.kept hq).narrow hAB).moved hW.alike⟩, ((h2.kept hq).narrow hAB).moved hW.alike, ((h3.kept hq).narrow hAB).moved hW.alike, fun q hq => (h4 q hq).warm hW, ((h5.kept hq).narrow hAB).moved hW.alike, fun w hw => ?_⟩
  have h7 := h6 w hw
  simp only [en_nest, List.mem_cons, List.not_mem_nil, or_false] at hw
  rcases hw with rfl | rfl | rfl | rfl | rfl | rfl | rfl
  · exact va_Nw.warmM hW h7
  · exact va_Nw.warmM hW h7
  · exact va_Nw.warmM hW h7
  · exact va_Nw.warmF hW h7
  · exact va_Nw.warmF hW h7
  · exact va_AOA.moved hW.alike h7
  · exact va_AOA.moved hW.alike h7
theorem en_K_same {cd : Nat → Nat → Nat} {A : Nat → Prop} {u U : State} (hv : U.vm = u.vm) (hh : U.heap = u.heap) (hK : en_K cd A u u.heap) : en_K cd A U U.heap := by
  obtain ⟨h1, h2, h3, h4, h5, h6⟩ := hK
  have hal : u.vm.Alike U.vm := by rw [hv]; exact Vm.Alike.refl _
  rw [hh]
  refine ⟨fun i hi => ⟨(h1 i hi).1.moved hal, (h1 i hi).2.moved hal⟩, h2.moved hal, h3.moved hal, fun q hq => (h4 q hq).same hv, h5.moved hal, fun w hw => ?_⟩
  have h7 := h6 w hw
  simp only [en_nest, List.mem_cons, List.not_mem_nil, or_false] at hw
  rcases hw with rfl | rfl | rfl | rfl | rfl | rfl | rfl
  · exact va_Nw.same rfl hv.symm h7
  · exact va_Nw.same rfl hv.symm h7
  · exact va_Nw.same rfl hv.symm h7
  · exact va_Nw.same rfl hv.symm h7
  · exact va_Nw.same rfl hv.symm h7
  · exact va_AOA.moved hal h7
  · exact va_AOA.moved hal h7
theorem en_blind (as : List Value) (ad : Nat → Nat) (cd : Nat → Nat → Nat) (D : va_G) (cs : Nat → ClassId) (M : Mm) (sz : Nat) : FrameBlind (va_Pc as (en_Wd ad cd D cs M sz)) := by
  intro a U g mk q
  obtain ⟨q0, q1, qP, qK, qD, qC⟩ := q
  exact ⟨q0, q1, qP, va_K.moved (u := U) (U := U.calling g mk a) (Vm.Alike.refl U.vm) qK, qD, en_K_same (u := U) (U := U.calling g mk a) rfl rfl qC⟩
theorem en_good {k : Nat} (hk : en_used.contains k = true) : GoodIn en_gw (en_ws k) := by
  intro w hw
  rcases List.mem_cons.mp hw with rfl | hw
  · refine ⟨List.mem_filter.mpr ⟨?_, rfl⟩, Or.inl rfl⟩
    exact en_cw_all k (List.contains_iff_mem.mp hk)
  · exact ⟨hw, good_of_word (List.mem_filter.mp hw).2⟩
theorem en_minfo {k : Nat} (hk : en_used.contains k = true) : Cond.initialized (en_m k).1.cls ∈ en_gw ∧ ((en_m k).2.2.2.2.2.1 = true → Cond.static (en_m k).1 ∈ en_gw) ∧ ((en_m k).2.2.2.2.2.1 = false → Cond.instanceMethod (en_m k).1 ∈ en_gw ∧ Cond.selects (en_m k).1.cls (en_m k).1 (en_m k).1 ∈ en_gw) ∧ ((en_m k).1.cls ≠ "java/lang/invoke/MethodHandle" ∧ (en_m k).1.cls ≠ "java/lang/invoke/VarHandle" ∧ (parseMethodDescriptor (en_m k).1.desc).map (fun d => d.parameters.length) = some (en_m k).2.2.2.2.1) ∧ plainName (en_m k).1.cls = true ∧ en_cn[(en_m k).2.2.2.2.2.2]? = some (en_m k).1.cls ∧ (en_m k).2.2.1 ≤ 20 := by
  have h := en_mck_at hk
  unfold en_mck at h
  simp only [Bool.and_eq_true, Bool.or_eq_true, decide_eq_true_eq] at h
  obtain ⟨h1, h2, h3, h4, h5, h6, h7, h8⟩ := h
  refine ⟨en_gw_of h1 rfl, fun hs => ?_, fun hs => ⟨?_, ?_⟩, ⟨h4.1, h4.2, h5⟩, h6, h7, h8⟩
  · rw [hs] at h2
    exact en_gw_of h2 rfl
  · rw [hs] at h2
    exact en_gw_of h2 rfl
  · rcases h3 with h3 | h3
    · rw [hs] at h3; cases h3
    · exact en_gw_of h3 rfl
section EN5
variable {ad : Nat → Nat} {H : Heap} {locs : List Loc} {lsA : Array Slot}
variable {p : Program} {l : Launch} {e : Env} {R : Room} {s : State} {m : MethodId} {args : Array Value} {below : List Frame} {meth : Method} {c : Code} {Q : State → Prop} {cc : ByteArray} {own : String} {nL h bu0 : Nat} {A : Nat → Prop} {cd : Nat → Nat → Nat} {D : va_G} {cs : Nat → ClassId} {sc : Nat × (Nat → Int)} {ad0 : Nat → Nat} {M0 : Mm} {pc : Nat} {ls : AL} {st r : List AV} {M : Mm} {bu : Nat} {k : AK} {K : Nat → AK}
theorem en_In.sub (I : en_In s nL A cd D cs ad0 M0 sc.1 ad H locs lsA ls st M) (X : en_Fx p R s m args c cc own nL h bu0 A cd D cs sc) : ∀ q, va_A (en_wd ad cs M) H.size q → A q := by
  intro q hq
  rcases hq with ⟨k, e, hk⟩ | hq
  · exact I.2.2.2.2.2.2.1.2 k (q, e) hk
  · exact X.2.2.2.2.2.2.2.2.1 q (Nat.le_trans I.2.2.2.2.2.2.2.1.1 hq)
/-- the world that a callee sees -/
theorem en_In.wd (I : en_In s nL A cd D cs ad0 M0 sc.1 ad H locs lsA ls st M) (X : en_Fx p R s m args c cc own nL h bu0 A cd D cs sc) {U : State} (hU : U.heap = H) (hW : s.WarmedH U.vm) : en_Wd ad cd D cs M H.size U := by
  refine ⟨by rw [hU], by rw [hU]; exact I.2.2.2.2.2.1, va_K.moved hW.alike X.2.2.2.2.2.1, I.2.2.2.2.2.2.1.weaken (fun _ _ _ _ => trivial), ?_⟩
  rw [hU]
  exact en_K_move X.2.2.2.2.2.2.1 I.2.2.2.2.2.2.2.1.2.1 (I.sub X) hW
theorem en_call {post : Option AV → Mm → Prop} {mc ms cells slots : Nat} {a : Array Value} {st0 rest : List Value} (hS : va_S A s.heap H locs) (hA : ∀ q, va_A (en_wd ad cs M) H.size q → A q)
    (hr : va_Run p l e R s m args below meth c H locs cells slots mc ms (F0 m pc lsA st0) rest (en_Q post ad cd D cs M H.size a) (va_A (en_wd ad cs M) H.size))
    (kk : ∀ (v : Option AV) (M' : Mm) (ad' : Nat → Nat) (H1 : Heap) (locs1 : List Loc), post v M' → (∀ u, v = some u → en_ok 0 M' u) → en_agree ad ad' M M' → va_P D vwCl (en_wd ad' cs M') H1 → va_D A (en_wd ad' cs M') → va_S A s.heap H1 locs1 → W p l e R s m args below meth c H1 locs1 (cells + mc) (slots + ms) Q (F0 m (pc + 3) lsA ((v.map (en_rv ad' cd)).toList ++ rest))) :
    W p l e R s m args below meth c H locs cells slots Q (F0 m pc lsA st0) := by
  intro T hT X
  obtain ⟨v, st₀, t, T', L, h0, X', hL, e1, e2, ⟨⟨u, M', ad', hv, hp, hok, hag, hP, hD⟩, hz, hk⟩, st⟩ := hr T hT X
  cases hv
  rw [h0] at hz hk
  obtain ⟨t2, a1, b1⟩ := kk u M' ad' T'.heap (locs ++ L) hp hok hag (by rw [e1]; exact hP) (hD.weaken (fun k q _ hq => hA q.1 hq))
    ⟨Nat.le_trans hS.1 (by rw [e1]; exact hz), fun q h1 h2 => by rw [e1, hk q (Nat.lt_of_lt_of_le h1 hS.1) (fun z => h2 (hA q z))]; exact hS.2.1 q h1 h2, fun q hq => by
      rcases List.mem_append.mp hq with h | h
      · exact hS.2.2 q h
      · exact hA _ (hL q h)⟩ T' rfl X'
  exact ⟨t2, st t2 a1, b1⟩
/-- behind a call -/
theorem en_In.back {st0 : List AV} {M' : Mm} {ad' : Nat → Nat} {H1 : Heap} {locs1 : List Loc} (I : en_In s nL A cd D cs ad0 M0 sc.1 ad H locs lsA ls st0 M) (hr : ∀ v ∈ r, v ∈ st0) {v : Option AV} (hok : ∀ u, v = some u → en_ok 0 M' u) (hag : en_agree ad ad' M M') (hP : va_P D vwCl (en_wd ad' cs M') H1) (hD : va_D A (en_wd ad' cs M')) (hS : va_S A s.heap H1 locs1) : en_In s nL A cd D cs ad0 M0 sc.1 ad' H1 locs1 lsA ls (v.toList ++ r) M' ∧ ((v.map (en_rv ad' cd)).toList ++ r.map (en_rv ad cd)) = (v.toList ++ r).map (en_rv ad' cd) := by
  have hr2 : r.map (en_rv ad cd) = r.map (en_rv ad' cd) := List.map_congr_left (fun w hw => (en_rv_agree (I.2.2.2.2.1 w (hr w hw)) hag).symm)
  refine ⟨⟨I.1, I.2.1, I.2.2.1, fun i w hw => ?_, fun w hw => ?_, hP, hD, hS, en_agree_trans I.2.2.2.2.2.2.2.2 hag⟩, ?_⟩
  · obtain ⟨h1, h2⟩ := I.2.2.2.1 i w hw
    exact ⟨by rw [en_rv_agree h2 hag]; exact h1, en_ok_mono h2 (fun a ha => (hag a ha).1)⟩
  · rcases List.mem_append.mp hw with h | h
    · exact en_ok_up (hok w (Option.mem_toList.mp h))
    · exact en_ok_mono (I.2.2.2.2.1 w (hr w h)) (fun a ha => (hag a ha).1)
  · rw [hr2, List.map_append]
    congr 1
    cases v <;> rfl
theorem en_pop_eq : ∀ (n : Nat) (acc st as r : List AV), en_pop n acc st = some (as, r) → ∃ as', as = as' ++ acc ∧ st = as'.reverse ++ r ∧ as'.length = n
  | 0, acc, st, as, r, h => by
    cases h
    exact ⟨[], rfl, rfl, rfl⟩
  | n + 1, acc, [], as, r, h => by cases h
  | n + 1, acc, v :: st, as, r, h => by
    obtain ⟨as', h1, h2, h3⟩ := en_pop_eq n (v :: acc) st as r h
    refine ⟨as' ++ [v], by rw [h1]; simp, ?_, by simp [h3]⟩
    rw [h2]
    simp
theorem en_s_calls (X : en_Fx p R s m args c cc own nL h bu0 A cd D cs sc) {o i j f n nz h' b' : Nat} {as : List AV} (ho : en_cn.getD o "" = own) (hj : en_mlk[j]? = some (o, i, f, nz)) (hst : (en_m f).2.2.2.2.2.1 = true) (hn : (en_m f).2.2.2.2.1 = n) (hpop : en_pop n [] st = some (as, r)) (hr : (Nat.ble (en_sum r) 8 && as.all en_n9) = true) (hh' : h' < h) (hbu : b' ≤ bu) (hdg : decode cc pc = .ok (.invokestatic i, 3)) (hk : ∀ ls st M bu, k ls st M bu → en_At p l e R s m args below meth c Q nL A cd D cs ad0 M0 sc.1 bu0 (pc + 3) ls st M bu)
    (hs : en_Ct h' b' f as M (fun v M' => match v with | some v => k ls (v :: r) M' (bu - b') | none => k ls r M' (bu - b'))) : en_At p l e R s m args below meth c Q nL A cd D cs ad0 M0 sc.1 bu0 pc ls st M bu := by
  intro hb ad H locs lsA I
  obtain ⟨as', h1, h2, h3⟩ := en_pop_eq n [] st as r hpop
  rw [List.append_nil] at h1
  subst h1
  simp only [Bool.and_eq_true, Nat.ble_eq, List.all_eq_true] at hr
  obtain ⟨f1, f2, f3, f4⟩ := X.2.2.2.2.2.2.2.1
  obtain ⟨hu, hl⟩ := en_link_M hj
  rw [ho] at hl
  obtain ⟨i1, i2, -, i4, -, -, i7⟩ := en_minfo hu
  have hM := hs l ad cd D cs H.size (fun v hv => en_ok_0 (I.2.2.2.2.1 v (by rw [h2]; exact List.mem_append_left _ (List.mem_reverse.mpr hv))) (hr.2 v hv))
  have hcat := en_sum_eq ad cd r
  have hroom : (en_rm h' b').frames + 1 ≤ R.frames ∧ 8 + ((en_m f).2.2.1 + 11) + (en_rm h' b').locals ≤ R.locals := ⟨by show h' + 1 ≤ _; omega, by show 8 + ((en_m f).2.2.1 + 11) + 64 * h' ≤ _; omega⟩
  have hfit : 37 * (bu0 - bu) + 37 * b' ≤ R.cells ∧ 932 * (bu0 - bu) + 932 * b' ≤ R.slots := ⟨by omega, by omega⟩
  have hstk : st.map (en_rv ad cd) = (as.map (en_rv ad cd)).reverse ++ r.map (en_rv ad cd) := by rw [h2, List.map_append, List.map_reverse]
  have hrun : va_Run p l e R s m args below meth c H locs (37 * (bu0 - bu)) (932 * (bu0 - bu)) (37 * b') (932 * b') (F0 m pc lsA (st.map (en_rv ad cd))) (r.map (en_rv ad cd)) (en_Q (fun v M' => match v with | some v => k ls (v :: r) M' (bu - b') | none => k ls r M' (bu - b')) ad cd D cs M H.size (as.map (en_rv ad cd)).toArray) (va_A (en_wd ad cs M) H.size) := by
    rcases hl with ⟨-, hl⟩ | ⟨-, hl⟩
    · exact va_runS (n := n) ⟨X.1, X.2.1, X.2.2.1, X.2.2.2.1, X.2.2.2.2.1⟩ hM ⟨callB_of n X.2.2.2.2.1 (en_good hu) rfl rfl rfl (X.2.2.2.2.1 _ i1) (X.2.2.2.2.1 _ hl) ⟨i4.1, i4.2.1, by rw [i4.2.2, hn]⟩ hroom, X.2.2.2.2.1 _ (i2 hst)⟩ ⟨en_blind _ _ _ _ _ _ _, fun U hU hW => ⟨rfl, I.wd X hU hW⟩⟩ rfl (by rw [List.length_map]; exact h3) I.1 hstk (lv_room (by rw [hcat]; exact hr.1)) hdg hfit
    · exact va_runSN (n := n) ⟨X.1, X.2.1, X.2.2.1, X.2.2.2.1, X.2.2.2.2.1⟩ hM ⟨va_cnB n X.2.2.2.2.1 (en_good hu) rfl rfl rfl (X.2.2.2.2.2.2.1.2.2.2.2.2 _ hl) (X.2.2.2.2.1 _ i1) ⟨i4.1, i4.2.1, by rw [i4.2.2, hn]⟩ hroom, X.2.2.2.2.1 _ (i2 hst), trivial⟩ ⟨en_blind _ _ _ _ _ _ _, fun U hU hW => ⟨rfl, I.wd X hU hW⟩⟩ rfl (by rw [List.length_map]; exact h3) I.1 hstk (lv_room (by rw [hcat]; exact hr.1)) hdg hfit
  refine en_call I.2.2.2.2.2.2.2.1 (I.sub X) hrun (fun v M' ad' H1 locs1 hp hok hag hP hD hS => ?_)
  obtain ⟨I', he⟩ := I.back (r := r) (fun w hw => by rw [h2]; exact List.mem_append_right _ hw) hok hag hP hD hS
  rw [he, show 37 * (bu0 - bu) + 37 * b' = 37 * (bu0 - (bu - b')) by omega, show 932 * (bu0 - bu) + 932 * b' = 932 * (bu0 - (bu - b')) by omega]
  cases v with
  | none => exact hk _ _ _ _ hp (by omega) ad' H1 locs1 lsA I'
  | some v => exact hk _ _ _ _ hp (by omega) ad' H1 locs1 lsA I'
theorem en_s_callv (X : en_Fx p R s m args c cc own nL h bu0 A cd D cs sc) {o i j f n nz h' b' cl : Nat} {v0 : AV} {as : List AV} (ho : en_cn.getD o "" = own) (hj : en_mlk[j]? = some (o, i, f, nz)) (hst : (en_m f).2.2.2.2.2.1 = false) (hn : (en_m f).2.2.2.2.1 + 1 = n) (hpop : en_pop n [] st = some (v0 :: as, r)) (hr : (Nat.ble (en_sum r) 8 && (Nat.beq (en_m f).2.2.2.2.2.2 cl && as.all en_n9)) = true) (h9 : en_n9 v0 = true)
    (hv0 : ∀ (ad : Nat → Nat) (H : Heap) (locs : List Loc), en_ok sc.1 M v0 → va_P D vwCl (en_wd ad cs M) H → va_S A s.heap H locs → ∃ b, en_rv ad cd v0 = .ref b ∧ ∃ cell : Cell, H[b]? = some cell ∧ cell.vm.isStatics = false ∧ s.vm.findClass (en_m f).1.cls = some cell.cls)
    (hh' : h' < h) (hbu : b' ≤ bu) (hdg : decode cc pc = .ok (.invokevirtual i, 3)) (hk : ∀ ls st M bu, k ls st M bu → en_At p l e R s m args below meth c Q nL A cd D cs ad0 M0 sc.1 bu0 (pc + 3) ls st M bu)
    (hs : en_Ct h' b' f (v0 :: as) M (fun v M' => match v with | some v => k ls (v :: r) M' (bu - b') | none => k ls r M' (bu - b'))) : en_At p l e R s m args below meth c Q nL A cd D cs ad0 M0 sc.1 bu0 pc ls st M bu := by
  intro hb ad H locs lsA I
  obtain ⟨as', h1, h2, h3⟩ := en_pop_eq n [] st (v0 :: as) r hpop
  rw [List.append_nil] at h1
  subst h1
  simp only [Bool.and_eq_true, Nat.ble_eq, List.all_eq_true] at hr
  obtain ⟨f1, f2, f3, f4⟩ := X.2.2.2.2.2.2.2.1
  obtain ⟨hu, hl⟩ := en_link_M hj
  rw [ho] at hl
  obtain ⟨i1, -, i3, i4, -, -, i7⟩ := en_minfo hu
  have hM := hs l ad cd D cs H.size (fun v hv => en_ok_0 (I.2.2.2.2.1 v (by rw [h2]; exact List.mem_append_left _ (List.mem_reverse.mpr hv))) (by
    rcases List.mem_cons.mp hv with rfl | hv
    · exact h9
    · exact hr.2.2 v hv))
  obtain ⟨b, hbv, hcell⟩ := hv0 ad H locs (I.2.2.2.2.1 v0 (by rw [h2]; exact List.mem_append_left _ (List.mem_reverse.mpr List.mem_cons_self))) I.2.2.2.2.2.1 I.2.2.2.2.2.2.2.1
  rw [List.map_cons, hbv] at hM
  have hcat := en_sum_eq ad cd r
  have hroom : (en_rm h' b').frames + 1 ≤ R.frames ∧ 8 + ((en_m f).2.2.1 + 11) + (en_rm h' b').locals ≤ R.locals := ⟨by show h' + 1 ≤ _; omega, by show 8 + ((en_m f).2.2.1 + 11) + 64 * h' ≤ _; omega⟩
  have hfit : 37 * (bu0 - bu) + 37 * b' ≤ R.cells ∧ 932 * (bu0 - bu) + 932 * b' ≤ R.slots := ⟨by omega, by omega⟩
  have hstk : st.map (en_rv ad cd) = (as.map (en_rv ad cd)).reverse ++ .ref b :: r.map (en_rv ad cd) := by rw [h2, List.map_append, List.map_reverse, List.map_cons, hbv]; simp
  have hlen : (as.map (en_rv ad cd)).length = (en_m f).2.2.2.2.1 := by
    rw [List.length_map]
    simp only [List.length_cons] at h3
    omega
  have hrun : va_Run p l e R s m args below meth c H locs (37 * (bu0 - bu)) (932 * (bu0 - bu)) (37 * b') (932 * b') (F0 m pc lsA (st.map (en_rv ad cd))) (r.map (en_rv ad cd)) (en_Q (fun v M' => match v with | some v => k ls (v :: r) M' (bu - b') | none => k ls r M' (bu - b')) ad cd D cs M H.size (Value.ref b :: as.map (en_rv ad cd)).toArray) (va_A (en_wd ad cs M) H.size) := by
    rcases hl with ⟨-, hl⟩ | ⟨-, hl⟩
    · exact va_runV (n := (en_m f).2.2.2.2.1) ⟨X.1, X.2.1, X.2.2.1, X.2.2.2.1, X.2.2.2.2.1⟩ hM ⟨callB_of _ X.2.2.2.2.1 (en_good hu) rfl rfl rfl (X.2.2.2.2.1 _ i1) (X.2.2.2.2.1 _ hl) i4 hroom, X.2.2.2.2.1 _ (i3 hst).1, X.2.2.2.2.1 _ (i3 hst).2⟩ ⟨en_blind _ _ _ _ _ _ _, hcell, fun U hU hW => ⟨rfl, I.wd X hU hW⟩⟩ rfl hlen I.1 hstk (lv_room (by rw [hcat]; exact hr.1)) hdg hfit
    · exact va_runVN (n := (en_m f).2.2.2.2.1) ⟨X.1, X.2.1, X.2.2.1, X.2.2.2.1, X.2.2.2.2.1⟩ hM ⟨va_cnB _ X.2.2.2.2.1 (en_good hu) rfl rfl rfl (X.2.2.2.2.2.2.1.2.2.2.2.2 _ hl) (X.2.2.2.2.1 _ i1) i4 hroom, X.2.2.2.2.1 _ (i3 hst).1, X.2.2.2.2.1 _ (i3 hst).2⟩ ⟨en_blind _ _ _ _ _ _ _, hcell, fun U hU hW => ⟨rfl, I.wd X hU hW⟩⟩ rfl hlen I.1 hstk (lv_room (by rw [hcat]; exact hr.1)) hdg hfit
  refine en_call I.2.2.2.2.2.2.2.1 (I.sub X) hrun (fun v M' ad' H1 locs1 hp hok hag hP hD hS => ?_)
  obtain ⟨I', he⟩ := I.back (r := r) (fun w hw => by rw [h2]; exact List.mem_append_right _ hw) hok hag hP hD hS
  rw [he, show 37 * (bu0 - bu) + 37 * b' = 37 * (bu0 - (bu - b')) by omega, show 932 * (bu0 - bu) + 932 * b' = 932 * (bu0 - (bu - b')) by omega]
  cases v with
  | none => exact hk _ _ _ _ hp (by omega) ad' H1 locs1 lsA I'
  | some v => exact hk _ _ _ _ hp (by omega) ad' H1 locs1 lsA I'
/-- the receiver of a call: an object of the block -/
theorem en_rcv1 {f cl a : Nat} (X : en_Fx p R s m args c cc own nL h bu0 A cd D cs sc) (hf : en_used.contains f = true) (hcl : Nat.beq (en_m f).2.2.2.2.2.2 cl = true) : ∀ (ad : Nat → Nat) (H : Heap) (locs : List Loc), en_ok sc.1 M (.inr (.inr (1, cl, a))) → va_P D vwCl (en_wd ad cs M) H → va_S A s.heap H locs → ∃ b, en_rv ad cd (.inr (.inr (1, cl, a))) = .ref b ∧ ∃ cell : Cell, H[b]? = some cell ∧ cell.vm.isStatics = false ∧ s.vm.findClass (en_m f).1.cls = some cell.cls := by
  intro ad H locs hok hP hS
  obtain ⟨hl, ha⟩ := en_ok_ref hok (by decide) (by decide)
  obtain ⟨i0, hi0, hi1⟩ := en_wd_at (ad := ad) (cs := cs) ha
  have hce : en_cell ad cs M a = .inr (cl, en_fs ad M a cl) := by
    unfold en_cell
    rw [en_layD hl]
    rfl
  rw [hce] at hi1
  have hc7 : cl < 7 := by
    have hc := en_chk_at (en_pl_lt ha)
    unfold en_chk at hc
    rw [en_layD hl] at hc
    simp only [Bool.and_eq_true, decide_eq_true_eq] at hc
    cases hv : vwCl[cl]? with
    | none => rw [hv] at hc; cases hc.2
    | some q => exact (List.getElem?_eq_some_iff.mp hv).1
  have hcl2 := Nat.eq_of_beq_eq_true hcl
  obtain ⟨-, -, -, -, -, i6, -⟩ := en_minfo hf
  rw [hcl2] at i6
  have hq : ∃ q : vw_C, vwCl[cl]? = some q ∧ q.1 = (en_m f).1.cls := by
    have key : ∀ n, n < 7 → (vwCl[n]?).map (fun q => q.1) = en_cn[n]? := by decide +kernel
    have := key cl hc7
    rw [i6] at this
    cases hv : vwCl[cl]? with
    | none => rw [hv] at this; cases this
    | some q => rw [hv] at this; exact ⟨q, rfl, Option.some.inj this⟩
  obtain ⟨q, hq1, hq2⟩ := hq
  obtain ⟨cell, g1, g2, g3⟩ := va_recv X.2.2.2.2.2.1 hP hq1 hi1
  exact ⟨ad a, rfl, cell, g1, g2, by rw [← hq2]; exact g3⟩
theorem en_rcv7 {f n a : Nat} (X : en_Fx p R s m args c cc own nL h bu0 A cd D cs sc) (hf : en_used.contains f = true) (hcl : Nat.beq (en_m f).2.2.2.2.2.2 10 = true) : ∀ (ad : Nat → Nat) (H : Heap) (locs : List Loc), en_ok sc.1 M (.inr (.inr (7, n, a))) → va_P D vwCl (en_wd ad cs M) H → va_S A s.heap H locs → ∃ b, en_rv ad cd (.inr (.inr (7, n, a))) = .ref b ∧ ∃ cell : Cell, H[b]? = some cell ∧ cell.vm.isStatics = false ∧ s.vm.findClass (en_m f).1.cls = some cell.cls := by
  intro ad H locs hok hP hS
  have hn := en_ok7 hok
  obtain ⟨-, -, -, -, -, i6, -⟩ := en_minfo hf
  rw [Nat.eq_of_beq_eq_true hcl] at i6
  have e : (en_m f).1.cls = "java/lang/String" := (Option.some.inj i6).symm
  rw [e]
  exact ⟨cd 7 n, rfl, vk_recv X.2.2.2.2.2.2.1.2.2.2.2.1 hn hS⟩
end EN5
