set_option maxHeartbeats 4000000 in
/-- THE LAW, from its entry -/
theorem whole_start {p : Program} {e : Env} {s : State} {m : MethodId} {below : List Frame} {meth : Method} {c : Code} (l : Launch) {b L : Nat} {xs : Nat → Int32} (hL : L ≤ 3072) (C0 : lw_At p s m meth c b L xs) : W p l e room_1 s m #[Value.ref b] below meth c s.heap [] 0 0 (lw_Z below #[Value.ref b] s) (entryFrame m ([Value.ref b] : List Value).toArray 4) := by
  obtain ⟨hx, hb, hr, hml, hown, hts, hX, hbl, hlocks, hgv⟩ := id C0
  have hgw : ∀ w ∈ en_gw, w.before #[Value.ref b] s = true := fun w hw => hts w (List.mem_filter.mp hw).1
  obtain ⟨D, cs, hK⟩ := st_K hts
  obtain ⟨cd, hc9, hC⟩ := st_en hts hgv
  have hE5 := st_E5 hts hgv
  have Y : cx_F p s m #[Value.ref b] c code R_law 4 (fun q => s.heap.size ≤ q) D cs := ⟨hx, hb, hml, hown, hgw, hK, fun _ h => h⟩
  have hAOA : va_AOA .int s ∧ va_AOA .long s := ⟨hts _ tw_39, hts _ tw_937⟩
  have hP0 : va_P D vwCl [] s.heap := fun k q h => by simp at h
  have hD0 : va_D (fun q : Nat => s.heap.size ≤ q) [] := ⟨fun i j p q h => by simp at h, fun k q h => by simp at h⟩
  have hl := lv_entry ([.ref b]) (n := 4) (Nat.le_of_ble_eq_true rfl)
  rw [lg_entry_eq]
  generalize (lg_sl ([.ref b]) ++ List.replicate (4 - (lg_sl ([.ref b])).length) Slot.unset).toArray = ls at hl ⊢
  have hl : lv_has ls 4 [(0, .ref b)] := hl
  refine cx_mk (i := 7) (i2 := 9) (cj := 5) (r := (RX5, TX5, 10)) (nLc := 2) (b := 0) (n := 84) (fr := 3) (lo := 64) (mc := 83) (ms := 1499) (fs0 := cx_f5) (ex := cx_E5) (pc' := 7) (st := []) Y ⟨⟨rfl, cw_15, cw_16, cw_1⟩, ⟨cx_t5, cx_d5⟩, cx_C5 l, ⟨cw_19, cw_18, cw_1, rfl, by decide, by decide, by decide +kernel⟩, ⟨Nat.le_of_ble_eq_true rfl, Nat.le_of_ble_eq_true rfl⟩, ⟨fun _ _ _ _ _ h => cx_E5_same rfl rfl h, fun _ _ hW hAB hq => cx_E5_move hE5 hq hAB hW⟩, by decide +kernel, by decide +kernel, by decide +kernel⟩ rfl hl.1 (Or.inr cw_17) (Nat.le_of_ble_eq_true rfl) (Nat.le_of_ble_eq_true rfl) (Nat.le_of_ble_eq_true rfl) hP0 hD0 va_S.rf (fun q1 H1 locs1 hP1 hD1 hS1 => ?_)
  refine lv_astore_n (k := 1) (lv' := [(1, .ref (q1 0)), (0, .ref b)]) hx hb (by decide +kernel) rfl hl (by decide) rfl (fun ls hl => ?_)
  refine cx_mk (i := 10) (i2 := 12) (cj := 6) (r := (RX6, TX6, 41)) (nLc := 1) (b := 84) (n := 37) (fr := 1) (lo := 14) (mc := 36) (ms := 891) (fs0 := cx_f6) (ex := fun _ U => va_AOA .int U ∧ va_AOA .long U) (pc' := 15) (st := []) Y ⟨⟨rfl, cw_930, cw_931, cw_7⟩, ⟨cx_t6, cx_d6⟩, cx_C6 l, ⟨cw_934, cw_933, cw_7, rfl, by decide, by decide, by decide +kernel⟩, ⟨Nat.le_of_ble_eq_true rfl, Nat.le_of_ble_eq_true rfl⟩, ⟨fun _ a U g mk h => ⟨h.1.moved (u := U) (U := U.calling g mk a) (Vm.Alike.refl U.vm), h.2.moved (u := U) (U := U.calling g mk a) (Vm.Alike.refl U.vm)⟩, fun _ U hW _ _ => ⟨hAOA.1.moved hW.alike, hAOA.2.moved hW.alike⟩⟩, by decide +kernel, by decide +kernel, by decide +kernel⟩ rfl hl.1 (Or.inr cw_932) (Nat.le_of_ble_eq_true rfl) (Nat.le_of_ble_eq_true rfl) (Nat.le_of_ble_eq_true rfl) hP1 hD1 hS1 (fun q2 H2 locs2 hP2 hD2 hS2 => ?_)
  refine lv_astore_n (k := 2) (lv' := [(2, .ref (q2 0)), (1, .ref (q1 0)), (0, .ref b)]) hx hb (by decide +kernel) rfl hl (by decide) rfl (fun ls hl => ?_)
  refine lv_iconst (n := 0) (v := Int32.ofInt 0) hx hb (by decide +kernel) rfl ?_
  refine lv_istore_n (k := 3) (lv' := [(3, .int (Int32.ofInt 0)), (2, .ref (q2 0)), (1, .ref (q1 0)), (0, .ref b)]) hx hb (by decide +kernel) rfl hl (by decide) rfl (fun ls hl => ?_)
  refine W.widen (k := 37 * (20 - 2)) (n := 932 * (20 - 2)) (Nat.le_of_ble_eq_true rfl) (Nat.le_of_ble_eq_true rfl) ?_
  rw [List.nil_append, st_wd] at hP2 hD2
  have hf : (fun j => Int32.ofInt (lw_f xs j)) = xs := funext fun j => Int32.ofInt_toInt _
  have C : lw_C p s m meth c b L xs cd D cs := by
    refine ⟨⟨hx, hb, hml, hown, hgw, hK, hC, ⟨Nat.le_of_ble_eq_true rfl, Nat.le_of_ble_eq_true rfl, Nat.le_of_ble_eq_true rfl, Nat.le_of_ble_eq_true rfl⟩, fun _ h => h, fun L' hL' => ?_⟩, hr, hlocks⟩
    have e : L' = L := Nat.succ.inj hL'
    subst e
    rw [hc9]
    refine ⟨?_, hbl, Nat.not_le.mpr hbl, by omega⟩
    show va_X b L' (fun j => Int32.ofInt (lw_f xs j)) s s.heap
    rw [hf]
    exact hX
  refine lw_loop (ad0 := fun a => if a < 84 then q1 a else q2 (a - 84)) (below := below) (l := l) (e := e) C hL (L + 1) 0 cx_M 2 (by omega) (by omega) st_cpl (by rw [st_bl]; exact Nat.le_refl _) (Nat.le_of_ble_eq_true rfl) (fun a => if a < 84 then q1 a else q2 (a - 84)) H2 locs2 ls ⟨hl.1, hl.2.1, rfl, fun i v hv => ?_, fun v hv => (by cases hv), hP2, hD2, hS2, en_agree_refl rfl⟩
  match i, hv with
  | 0, hv =>
    have ev : v = .inr (.inr (9, L, 0)) := (Option.some.inj hv).symm
    subst ev
    refine ⟨?_, Or.inr (Or.inr (Or.inr (Or.inr (Or.inl ⟨rfl, rfl⟩))))⟩
    show ls[0]? = some (.val (.ref (cd 9 0)))
    rw [hc9]
    exact lv_at hl 3 rfl
  | 1, hv =>
    have ev : v = .inr (.inr (1, 5, 0)) := (Option.some.inj hv).symm
    subst ev
    exact ⟨lv_at hl 2 rfl, Or.inl ⟨by decide, by decide +kernel, by decide +kernel⟩⟩
  | 2, hv =>
    have ev : v = .inr (.inr (1, 6, 84)) := (Option.some.inj hv).symm
    subst ev
    exact ⟨lv_at hl 1 rfl, Or.inl ⟨by decide, by decide +kernel, by decide +kernel⟩⟩
  | 3, hv =>
    have ev : v = .inl 0 := (Option.some.inj hv).symm
    subst ev
    exact ⟨lv_at hl 0 rfl, trivial⟩
  | i + 4, hv => simp at hv
set_option maxHeartbeats 4000000 in
theorem lw_walk (l : Launch) (b : Addr) (xs : List Int32) : MetFree l x (headSpec (Jvm.Cond.code x code maxLocals ret :: tables_1) room_1) (lw_P b xs) (fun _ _ _ _ _ => True) lw_Q := by
  refine MetFree.of_bodyS (code := code) (maxLocals := maxLocals) (ret := ret) (by decide) ?_ ?_
  · intro args s m h hn
    obtain ⟨meth, c, h1, h2, h3, h4, h5, h6, -, -⟩ := Cond.code_spec hn (atoms_spec (ws := Jvm.Cond.code x code maxLocals ret :: tables_1) h _ List.mem_cons_self)
    exact ⟨meth, c, h1, h2, h3, h4, h5, h6⟩
  · intro p e s m args below meth c s₁ B hml0 hP _
    obtain ⟨rfl, hx, hbd, hgv⟩ := hP
    obtain ⟨scr, harrAt, hlist, hof, hsmall⟩ := hx
    obtain ⟨hcb, hkn, -, -⟩ := State.arrayAt?_spec harrAt
    have hown : s.vm.findClass R_law = some m.cls := findClass_of_methodNamed B.named
    have hts0 : ∀ c ∈ (Jvm.Cond.code x code maxLocals ret :: tables_1), c.before #[Value.ref b] s = true := atoms_spec (ws := Jvm.Cond.code x code maxLocals ret :: tables_1) B.pre
    have hts : ∀ w ∈ lw_tbl, w.before #[Value.ref b] s = true := k2_hts_sels lw_privs (fun w hw => hts0 w (List.mem_cons_of_mem _ hw)) lw_privs_ok
    have hml : c.maxLocals = 4 := B.maxLocals_eq (hts0 _ List.mem_cons_self)
    have X₀ : Stand p l e room_1 s m #[Value.ref b] below meth c s₁ [] 0 0 := Stand.of_body B
    have hh0 : s₁.heap = s.heap := by rw [B.state]; rfl
    have hsz : scr.slots.size = xs.length := by rw [← Array.length_toList, hlist, List.length_map]
    have hval : ∀ j : Nat, j < xs.length → scr.slots[j]? = some (.int (xs.getD j 0)) := fun j hj => by
      rw [← Array.getElem?_toList, hlist]
      simp [hj]
    have hbl : b < s.heap.size := (Array.getElem?_eq_some_iff.mp hcb).1
    have hX : va_X b xs.length (fun j => xs.getD j 0) s s.heap := ⟨scr, hcb, hof, hkn, hsz, hval⟩
    have K : W p l e room_1 s m #[Value.ref b] below meth c s₁.heap [] 0 0 (lw_Z below #[Value.ref b] s) (entryFrame m ([Value.ref b] : List Value).toArray 4) := by
      rw [hh0]
      exact whole_start l hbd ⟨B.exec, B.bytes, B.returns, hml, hown, hts, hX, hbl, B.notSynchronized, hgv⟩
    obtain ⟨t, a1, o, b1, b2, b3⟩ := K s₁ rfl X₀
    exact ⟨t, o, a1, b1, b2, b3⟩
theorem lw_pre_spec {args : Array Value} {s : State} (h : (Jvm.Cond.and given_1 narrow_1).before args s = true) (hr : rest_1_c.before args s = true) : ∃ (b : Addr) (xs : List Int32), lw_P b xs args s := by
  have hs := flat_of_before _ h
  have hq := flat_of_before _ hr
  have hc : (Cond.count 1).before args s = true := hs _ (by decide +kernel)
  have harr : (Cond.arrayOf (.arg 0) .int).before args s = true := hs _ (by decide +kernel)
  have hle : (Cond.le (.length (.arg 0)) (.int 3072)).before args s = true := hs _ (by decide +kernel)
  have hlen : (Cond.isInt (.length (.arg 0))).before args s = true := hq _ (by decide +kernel)
  have hall : (Cond.all (.arg 0) (.isInt (.elem (.arg 0) (.index 0)))).before args s = true := hq _ (by decide +kernel)
  obtain ⟨b, xs, hb, hx⟩ := State.ints_of_pre rfl harr hlen hall
  have hsm : xs.length < 2 ^ 31 := hx.choose_spec.2.2.2
  have hev : (Term.length (.arg 0)).eval args s none [] s = some (.int xs.length.toInt32) := hx.length_eval hb
  have hv := Cond.le_ints hev (show (Term.int 3072).eval args s none [] s = some (.int 3072) from rfl)
  have hd : xs.length.toInt32 ≤ 3072 := by
    simpa [Cond.before, Cond.holds, hv] using hle
  have hN : xs.length ≤ 3072 := (Int32.ofNat_le_ofNat hsm (by decide)).mp (show Int32.ofNat xs.length ≤ Int32.ofNat 3072 from hd)
  exact ⟨b, xs, Cond.one_arg hc (show args[0]? = some (.ref b) from hb), hx, hN, h⟩
theorem lw_comes (l : Launch) : Comes l x (Jvm.Cond.code x code maxLocals ret :: tables_1) room_1 (fun tb e args s => Calls_1 tb e args s ∧ rest_1 tb e args s ∧ Pre_1 tb e args s)
    (fun _ _ args s o t => lw_Q args s o t) := by
  intro p e ha hc hk s m args below hf hfit hheap happ hpre
  obtain ⟨b, xs, hP⟩ := lw_pre_spec hpre.2.2 hpre.2.1
  obtain ⟨k, o, h1, h2, h3, hQ⟩ := lw_walk l b xs p e ha hc hk s m args below hf ((Spec.applies_iff_loose hf).mp happ).1 hP trivial
  exact ⟨k, o, h1, h2, h3, hQ⟩
theorem lw_frame {s t : State} {o : Outcome} {args : Array Value} (h : Framed s o t [] 600000 7302250) :
    Framed s o t (fieldLocs frame_1_writes args s ++ arrayLocs frame_1_arrays args s ++ staticLocs frame_1_statics s) 600000 7302250 := h
theorem lw_limb (L : Cond) (hL : ∀ (args : Array Value) (s t : State), L.after args s (.returned (some (.int 1))) t = true) :
    ArmFor flags0 classFile x code maxLocals ret World_1 tables_1 room_1 Calls_1 rest_1 Pre_1
      (fun tb e a s o t => postC L tb e a s o t ∧ Framed s o t (fieldLocs frame_1_writes a s ++ arrayLocs frame_1_arrays a s ++ staticLocs frame_1_statics s) 600000 7302250) := by
  intro l _ _ _ p e ha hc hk s m args below hf hfit hheap happ hpre
  obtain ⟨k, o, h1, h2, h3, rfl, hF⟩ := lw_comes l p e ha hc hk s m args below hf hfit hheap happ hpre
  exact ⟨k, _, h1, h2, h3, hL args s _, lw_frame hF⟩
theorem i_vc : Claimed_1_1 ∧ Claimed_1_2 := ⟨lw_limb limb_1_1 (fun args s t => by simp [limb_1_1, Cond.after, Cond.holds, Cond.value]), lw_limb limb_1_2 (fun args s t => Cond.after_iff.mpr (by
  first | (rw [show limb_1_2 = Cond.eq .result (.int 1) from rfl, Cond.eq_ints (x := 1) (y := 1) rfl rfl]; simp; done) | (simp [limb_1_2, Cond.value, Term.eval]; done)))⟩
