/-! instructions on fields and rows -/
section EN3
variable {ad : Nat → Nat} {H : Heap} {locs : List Loc} {lsA : Array Slot}
variable {p : Program} {l : Launch} {e : Env} {R : Room} {s : State} {m : MethodId} {args : Array Value} {below : List Frame} {meth : Method} {c : Code} {Q : State → Prop} {cc : ByteArray} {own : String} {nL h bu0 : Nat} {A : Nat → Prop} {cd : Nat → Nat → Nat} {D : va_G} {cs : Nat → ClassId} {sc : Nat × (Nat → Int)} {ad0 : Nat → Nat} {M0 : Mm} {pc : Nat} {ls : AL} {st r : List AV} {M : Mm} {bu : Nat} {k : AK} {K : Nat → AK}
theorem en_ok_ref {sL kd n a : Nat} (h : en_ok sL M (.inr (.inr (kd, n, a)))) (h1 : 1 ≤ kd) (h2 : kd ≤ 5) : en_lay[a]? = some (kd, n) ∧ a ∈ en_pl M := by
  cases kd with
  | zero => omega
  | succ kd =>
    rcases h with ⟨-, h3, h4⟩ | h | h | h | h | h
    · exact ⟨h3, h4⟩
    all_goals omega
theorem en_layD {a kd n : Nat} (h : en_lay[a]? = some (kd, n)) : en_lay.getD a (0, 0) = (kd, n) := by
  rw [List.getD_eq_getElem?_getD, h]
  rfl
theorem en_rv_ref {tk tn b : Nat} (h1 : 1 ≤ tk) (h2 : tk ≤ 5) : en_rv ad cd (.inr (.inr (tk, tn, b))) = .ref (ad b) := by
  match tk, h1, h2 with
  | 1, _, _ => rfl
  | 2, _, _ => rfl
  | 3, _, _ => rfl
  | 4, _, _ => rfl
  | 5, _, _ => rfl
theorem en_fs_at {a cl k : Nat} (hk : k < (en_ft.getD cl []).length) : (en_fs ad M a cl)[k]? = some (en_fv ad M a k ((en_ft.getD cl []).getD k (9, 0, 0, 0))) := by
  unfold en_fs
  generalize en_ft.getD cl [] = L at hk ⊢
  rw [List.getElem?_map, List.getElem?_zipIdx, List.getD_eq_getElem?_getD, List.getElem?_eq_getElem hk]
  simp
theorem en_fs_len {a cl : Nat} : (en_fs ad M a cl).length = (en_ft.getD cl []).length := by
  unfold en_fs
  simp
theorem en_fv_set {a k j : Nat} {x : Int} {t : Nat × Nat × Nat × Nat} (h : j ≠ k) : en_fv ad (en_wI M a k x) a j t = en_fv ad M a j t := by
  unfold en_fv
  rw [en_wI_at, if_neg h]
/-- the part of a block that a field holds -/
theorem en_part {cl a k tk tn off : Nat} (hl : en_lay[a]? = some (1, cl)) (ha : a ∈ en_pl M) (hf : (en_ft.getD cl []).getD k (9, 0, 0, 0) = (2, tk, tn, off)) : 1 ≤ tk ∧ tk ≤ 5 ∧ en_lay[a + off]? = some (tk, tn) ∧ a + off ∈ en_pl M := by
  have hc := en_chk_at (en_pl_lt ha)
  unfold en_chk at hc
  rw [en_layD hl] at hc
  simp only [Bool.and_eq_true] at hc
  have hm : ((2, tk, tn, off) : Nat × Nat × Nat × Nat) ∈ en_ft.getD cl [] := by
    rw [List.getD_eq_getElem?_getD] at hf
    cases hg : (en_ft.getD cl [])[k]? with
    | none => rw [hg] at hf; cases hf
    | some t => rw [hg] at hf; simp only [Option.getD_some] at hf; rw [← hf]; exact List.mem_of_getElem? hg
  have h1 := List.all_eq_true.mp hc.1 _ hm
  simp only [Bool.and_eq_true, Bool.or_eq_true, decide_eq_true_eq] at h1
  obtain ⟨⟨g1, g2⟩, g3, g4⟩ := h1
  exact ⟨g1, g2, g3, en_pl_same ha (by omega)⟩
theorem en_s_getf (X : en_Fx p R s m args c cc own nL h bu0 A cd D cs sc) {o i cl a f j : Nat} (ho : en_cn.getD o "" = own) (hj : en_flk[j]? = some (o, i, cl, f)) (hdg : decode cc pc = .ok (.getfield i, 3)) (hk : ∀ ls st M bu, k ls st M bu → en_At p l e R s m args below meth c Q nL A cd D cs ad0 M0 sc.1 bu0 (pc + 3) ls st M bu) (hs : match (en_ft.getD cl []).getD f (9, 0, 0, 0) with
          | (0, _) => k ls (.inl (M.1 a f) :: r) M bu
          | (1, _) => k ls (.inl (M.1 a f) :: r) M bu
          | (2, tk, tn, off) => k ls (.inr (.inr (tk, tn, a + off)) :: r) M bu
          | (3, tk, tn, off) => a = 84 ∧ (M.1 a f = 0 → k ls (.inr (.inr (0, 0, 0)) :: r) M bu) ∧ (¬ M.1 a f = 0 → k ls (.inr (.inr (tk, tn, a + off)) :: r) M bu)
          | _ => False) : en_At p l e R s m args below meth c Q nL A cd D cs ad0 M0 sc.1 bu0 pc ls (.inr (.inr (1, cl, a)) :: r) M bu := by
  intro hb ad H locs lsA I
  obtain ⟨hl, ha⟩ := en_ok_ref I.hd (by decide) (by decide)
  obtain ⟨q, hq, hqk, hlink⟩ := en_link_F hj
  rw [ho] at hlink
  obtain ⟨i0, hi0, hi1⟩ := en_wd_at (ad := ad) (cs := cs) ha
  have hce : en_cell ad cs M a = .inr (cl, en_fs ad M a cl) := by
    unfold en_cell
    rw [en_layD hl]
    rfl
  rw [hce] at hi1
  have hlen := (en_kinds hq hqk).1
  have hv := en_fs_at (ad := ad) (M := M) (a := a) (cl := cl) (k := f) (by rw [← hlen]; exact hqk)
  refine va_get (C := q.1) (T := q.2.1) (N := q.2.2) (ci := cl) (v := en_fv ad M a f ((en_ft.getD cl []).getD f (9, 0, 0, 0))) X.1 X.2.1 X.2.2.2.2.1 (en_uw hq) X.2.2.2.1 X.2.2.2.2.2.1 I.2.2.2.2.2.1 i0 hi1 hq f hqk (X.2.2.2.2.1 _ hlink) (fun _ z => z) hv hdg ?_
  generalize hF : (en_ft.getD cl []).getD f (9, 0, 0, 0) = F at hs hv ⊢
  obtain ⟨fk, tk, tn, off⟩ := F
  match fk, hF, hs with
  | 0, hF, hs => exact hk _ _ _ _ hs hb ad H locs lsA (I.tl.pu (en_okI _ _ _))
  | 1, hF, hs => exact hk _ _ _ _ hs hb ad H locs lsA (I.tl.pu (en_okI _ _ _))
  | 2, hF, hs =>
    obtain ⟨g1, g2, g3, g4⟩ := en_part hl ha hF
    have hh := hk _ _ _ _ hs hb ad H locs lsA (I.tl.pu (by
      cases tk with
      | zero => omega
      | succ tk => exact Or.inl ⟨g2, g3, g4⟩))
    rw [List.map_cons, en_rv_ref g1 g2] at hh
    exact hh
  | 3, hF, hs =>
    obtain ⟨rfl, h0, h1⟩ := hs
    have hcl := en_lay84 hl
    subst hcl
    by_cases hz : M.1 84 f = 0
    · have hh := hk _ _ _ _ (h0 hz) hb ad H locs lsA (I.tl.pu trivial)
      show W p l e R s m args below meth c H locs _ _ Q (F0 m (pc + 3) lsA ((if M.1 84 f = 0 then Value.null else .ref (ad (84 + off))) :: r.map (en_rv ad cd)))
      rw [if_pos hz]
      exact hh
    · show W p l e R s m args below meth c H locs _ _ Q (F0 m (pc + 3) lsA ((if M.1 84 f = 0 then Value.null else .ref (ad (84 + off))) :: r.map (en_rv ad cd)))
      rw [if_neg hz]
      rcases en_nf hF with ⟨rfl, rfl, rfl, rfl⟩ | ⟨rfl, rfl, rfl, rfl⟩
      · refine hk _ _ _ _ (h1 hz) hb ad H locs lsA (I.tl.pu (Or.inl ⟨by decide, by decide +kernel, ?_⟩))
        unfold en_pl
        rw [if_neg hz]
        exact List.mem_append_right _ (List.mem_append_right _ (List.mem_map.mpr ⟨0, by decide, rfl⟩))
      · refine hk _ _ _ _ (h1 hz) hb ad H locs lsA (I.tl.pu (Or.inl ⟨by decide, by decide +kernel, ?_⟩))
        unfold en_pl
        rw [if_neg hz]
        exact List.mem_append_right _ (List.mem_append_left _ (List.mem_map.mpr ⟨0, by decide, rfl⟩))
  | fk + 4, hF, hs => exact hs.elim
/-- behind a write that leaves the places as they are -/
theorem en_In.wr {M' : Mm} {H1 : Heap} {locs1 : List Loc} (I : en_In s nL A cd D cs ad0 M0 sc.1 ad H locs lsA ls st M) (hp : en_pl M' = en_pl M) (hP : va_P D vwCl (en_wd ad cs M') H1) (hD : va_D A (en_wd ad cs M')) (hS : va_S A s.heap H1 locs1) : en_In s nL A cd D cs ad0 M0 sc.1 ad H1 locs1 lsA ls st M' :=
  ⟨I.1, I.2.1, I.2.2.1, fun i v hv => ⟨(I.2.2.2.1 i v hv).1, en_ok_mono (I.2.2.2.1 i v hv).2 (fun a h => hp ▸ h)⟩, fun v hv => en_ok_mono (I.2.2.2.2.1 v hv) (fun a h => hp ▸ h), hP, hD, hS, en_agree_trans I.2.2.2.2.2.2.2.2 (en_agree_refl hp)⟩
theorem en_cell_ne {a j b : Nat} {x : Int} (h : b ≠ a) : en_cell ad cs (en_wI M a j x) b = en_cell ad cs M b := en_cell_congr (en_wI_ne h) rfl
theorem en_s_putf (X : en_Fx p R s m args c cc own nL h bu0 A cd D cs sc) {o i cl a f j : Nat} {x : Int} (ho : en_cn.getD o "" = own) (hj : en_flk[j]? = some (o, i, cl, f)) (hdg : decode cc pc = .ok (.putfield i, 3)) (hk : ∀ ls st M bu, k ls st M bu → en_At p l e R s m args below meth c Q nL A cd D cs ad0 M0 sc.1 bu0 (pc + 3) ls st M bu) (hs : match (en_ft.getD cl []).getD f (9, 0, 0, 0) with
          | (0, _) => k ls r (en_wI M a f x) bu
          | (1, _) => (x = 0 ∨ x = 1) ∧ k ls r (en_wI M a f x) bu
          | _ => False) : en_At p l e R s m args below meth c Q nL A cd D cs ad0 M0 sc.1 bu0 pc ls (.inl x :: .inr (.inr (1, cl, a)) :: r) M bu := by
  intro hb ad H locs lsA I
  obtain ⟨hl, ha⟩ := en_ok_ref I.tl.hd (by decide) (by decide)
  obtain ⟨q, hq, hqk, hlink⟩ := en_link_F hj
  rw [ho] at hlink
  obtain ⟨i0, hi0, hi1⟩ := en_wd_at (ad := ad) (cs := cs) ha
  have hce : ∀ M : Mm, en_cell ad cs M a = .inr (cl, en_fs ad M a cl) := by
    intro M
    unfold en_cell
    rw [en_layD hl]
    rfl
  rw [hce] at hi1
  obtain ⟨hlen, hk0, hk1⟩ := en_kinds hq hqk
  obtain ⟨ty0, hty, hnm⟩ := en_ty hq
  have hfl : f < (en_ft.getD cl []).length := by rw [← hlen]; exact hqk
  have hset : ∀ t : Nat × Nat × Nat, (en_ft.getD cl []).getD f (9, 0, 0, 0) = (0, t) ∨ (en_ft.getD cl []).getD f (9, 0, 0, 0) = (1, t) → (en_fs ad M a cl).set f (.int (Int32.ofInt x)) = en_fs ad (en_wI M a f x) a cl := by
    intro t ht
    apply List.ext_getElem?
    intro j
    by_cases hjf : j = f
    · subst hjf
      rw [List.getElem?_set_self (by rw [en_fs_len]; exact hfl), en_fs_at hfl]
      rcases ht with ht | ht
      · rw [ht]; unfold en_fv; rw [en_wI_at, if_pos rfl]; rfl
      · rw [ht]; unfold en_fv; rw [en_wI_at, if_pos rfl]; rfl
    · rw [List.getElem?_set_ne (Ne.symm hjf)]
      by_cases hjl : j < (en_ft.getD cl []).length
      · rw [en_fs_at hjl, en_fs_at hjl, en_fv_set hjf]
      · rw [List.getElem?_eq_none (by rw [en_fs_len]; omega), List.getElem?_eq_none (by rw [en_fs_len]; omega)]
  have h84 : ∀ t : Nat × Nat × Nat, (en_ft.getD cl []).getD f (9, 0, 0, 0) = (0, t) ∨ (en_ft.getD cl []).getD f (9, 0, 0, 0) = (1, t) → a = 84 → f ≠ 24 ∧ f ≠ 25 := by
    intro t ht ha4
    subst ha4
    have := en_lay84 hl
    subst this
    constructor
    · intro z
      obtain ⟨t', ht'⟩ := en_nf2 (Or.inl z)
      rcases ht with ht | ht <;> (rw [ht'] at ht; cases ht)
    · intro z
      obtain ⟨t', ht'⟩ := en_nf2 (Or.inr z)
      rcases ht with ht | ht <;> (rw [ht'] at ht; cases ht)
  have fin : ∀ t : Nat × Nat × Nat, (en_ft.getD cl []).getD f (9, 0, 0, 0) = (0, t) ∨ (en_ft.getD cl []).getD f (9, 0, 0, 0) = (1, t) → k ls r (en_wI M a f x) bu → ∀ (H1 : Heap) (locs1 : List Loc), va_P D vwCl ((en_wd ad cs M).set i0 (ad a, .inr (cl, (en_fs ad M a cl).set f (.int (Int32.ofInt x))))) H1 → va_D A ((en_wd ad cs M).set i0 (ad a, .inr (cl, (en_fs ad M a cl).set f (.int (Int32.ofInt x))))) → va_S A s.heap H1 locs1 → W p l e R s m args below meth c H1 locs1 (37 * (bu0 - bu)) (932 * (bu0 - bu)) Q (F0 m (pc + 3) lsA (r.map (en_rv ad cd))) := by
    intro t ht hs H1 locs1 hP hD hS
    have hpl := en_pl_wI (M := M) (x := x) (h84 t ht)
    rw [hset t ht, ← hce, en_wd_set hi0 hpl (fun b hb => en_cell_ne hb)] at hP hD
    exact hk _ _ _ _ hs hb ad H1 locs1 lsA (I.tl.tl.wr hpl hP hD hS)
  generalize hF : (en_ft.getD cl []).getD f (9, 0, 0, 0) = F at hs
  obtain ⟨fk, t⟩ := F
  match fk, hF, hs with
  | 0, hF, hs =>
    obtain ⟨z1, z2⟩ := hk0 t hF
    exact va_put (C := q.1) (T := q.2.1) (N := q.2.2) (ci := cl) (ty := .int) X.1 X.2.1 X.2.2.2.2.1 (en_uw hq) ty0 hty hnm X.2.2.2.1 X.2.2.2.2.2.1 I.2.2.2.2.2.1 I.2.2.2.2.2.2.1 I.2.2.2.2.2.2.2.1 i0 hi1 hq f hqk (X.2.2.2.2.1 _ hlink) (fun _ z => z) z1 z2 rfl rfl (by rw [en_fs_len]; exact hfl) hdg (fin t (Or.inl hF) hs)
  | 1, hF, hs =>
    obtain ⟨z1, z2⟩ := hk1 t hF
    obtain ⟨hx, hs⟩ := hs
    have hn : narrow .boolean (.int (Int32.ofInt x)) = .int (Int32.ofInt x) ∧ fits .boolean (.int (Int32.ofInt x)) = true := by rcases hx with rfl | rfl <;> exact ⟨rfl, rfl⟩
    exact va_put (C := q.1) (T := q.2.1) (N := q.2.2) (ci := cl) (ty := .boolean) X.1 X.2.1 X.2.2.2.2.1 (en_uw hq) ty0 hty hnm X.2.2.2.1 X.2.2.2.2.2.1 I.2.2.2.2.2.1 I.2.2.2.2.2.2.1 I.2.2.2.2.2.2.2.1 i0 hi1 hq f hqk (X.2.2.2.2.1 _ hlink) (fun _ z => z) z1 z2 hn.1 hn.2 (by rw [en_fs_len]; exact hfl) hdg (fin t (Or.inr hF) hs)
  | fk + 2, hF, hs => exact hs.elim
/-- a row of ints, of booleans, of longs at its place -/
theorem en_at2 {n a : Nat} (hl : en_lay[a]? = some (2, n)) : en_cell ad cs M a = .inl (cs 0, n, .inl (fun j => Int32.ofInt (M.1 a j))) := by
  unfold en_cell
  rw [en_layD hl]
  rfl
theorem en_at3 {n a : Nat} (hl : en_lay[a]? = some (3, n)) : en_cell ad cs M a = .inl (cs 1, n, .inl (fun j => Int32.ofInt (M.1 a j))) := by
  unfold en_cell
  rw [en_layD hl]
  rfl
theorem en_at4 {n a : Nat} (hl : en_lay[a]? = some (4, n)) : en_cell ad cs M a = .inl (cs 2, n, .inr (.inl (fun j => Int64.ofInt (M.2 a j)))) := by
  unfold en_cell
  rw [en_layD hl]
  rfl
theorem en_s_iald (X : en_Fx p R s m args c cc own nL h bu0 A cd D cs sc) {n a : Nat} {i : Int} (hdg : decode cc pc = .ok (.iaload, 1)) (hk : ∀ ls st M bu, k ls st M bu → en_At p l e R s m args below meth c Q nL A cd D cs ad0 M0 sc.1 bu0 (pc + 1) ls st M bu) (hs : en_ix i n (fun j => k ls (.inl (M.1 a j) :: r) M bu)) : en_At p l e R s m args below meth c Q nL A cd D cs ad0 M0 sc.1 bu0 pc ls (.inl i :: .inr (.inr (2, n, a)) :: r) M bu := by
  intro hb ad H locs lsA I
  obtain ⟨hl, ha⟩ := en_ok_ref I.tl.hd (by decide) (by decide)
  obtain ⟨j, rfl, hj, hs⟩ := hs
  obtain ⟨i0, hi0, hi1⟩ := en_wd_at (ad := ad) (cs := cs) ha
  rw [en_at2 hl] at hi1
  obtain ⟨g1, g2⟩ := en_ix_in hj (en_lay_n hl)
  refine va_iald X.1 X.2.1 X.2.2.2.2.2.1 I.2.2.2.2.2.1 i0 0 hi1 rfl g1 hdg ?_
  rw [g2]
  exact hk _ _ _ _ hs hb ad H locs lsA (I.tl.tl.pu (en_okI _ _ _))
theorem en_s_zald (X : en_Fx p R s m args c cc own nL h bu0 A cd D cs sc) {n a : Nat} {i : Int} (hdg : decode cc pc = .ok (.baload, 1)) (hk : ∀ ls st M bu, k ls st M bu → en_At p l e R s m args below meth c Q nL A cd D cs ad0 M0 sc.1 bu0 (pc + 1) ls st M bu) (hs : en_ix i n (fun j => k ls (.inl (M.1 a j) :: r) M bu)) : en_At p l e R s m args below meth c Q nL A cd D cs ad0 M0 sc.1 bu0 pc ls (.inl i :: .inr (.inr (3, n, a)) :: r) M bu := by
  intro hb ad H locs lsA I
  obtain ⟨hl, ha⟩ := en_ok_ref I.tl.hd (by decide) (by decide)
  obtain ⟨j, rfl, hj, hs⟩ := hs
  obtain ⟨i0, hi0, hi1⟩ := en_wd_at (ad := ad) (cs := cs) ha
  rw [en_at3 hl] at hi1
  obtain ⟨g1, g2⟩ := en_ix_in hj (en_lay_n hl)
  refine va_zald X.1 X.2.1 X.2.2.2.2.2.1 I.2.2.2.2.2.1 i0 1 hi1 rfl g1 hdg ?_
  rw [g2]
  exact hk _ _ _ _ hs hb ad H locs lsA (I.tl.tl.pu (en_okI _ _ _))
theorem en_s_lald (X : en_Fx p R s m args c cc own nL h bu0 A cd D cs sc) {n a : Nat} {i : Int} (hdg : decode cc pc = .ok (.laload, 1)) (hk : ∀ ls st M bu, k ls st M bu → en_At p l e R s m args below meth c Q nL A cd D cs ad0 M0 sc.1 bu0 (pc + 1) ls st M bu) (hs : en_ix i n (fun j => k ls (.inr (.inl (M.2 a j)) :: r) M bu)) : en_At p l e R s m args below meth c Q nL A cd D cs ad0 M0 sc.1 bu0 pc ls (.inl i :: .inr (.inr (4, n, a)) :: r) M bu := by
  intro hb ad H locs lsA I
  obtain ⟨hl, ha⟩ := en_ok_ref I.tl.hd (by decide) (by decide)
  obtain ⟨j, rfl, hj, hs⟩ := hs
  obtain ⟨i0, hi0, hi1⟩ := en_wd_at (ad := ad) (cs := cs) ha
  rw [en_at4 hl] at hi1
  obtain ⟨g1, g2⟩ := en_ix_in hj (en_lay_n hl)
  refine va_lald X.1 X.2.1 X.2.2.2.2.2.1 I.2.2.2.2.2.1 i0 2 hi1 rfl g1 hdg ?_
  rw [g2]
  exact hk _ _ _ _ hs hb ad H locs lsA (I.tl.tl.pu (en_okL _ _ _))
theorem en_updI {a j : Nat} {x : Int} : upd (fun i => Int32.ofInt (M.1 a i)) j (Int32.ofInt x) = fun i => Int32.ofInt ((en_wI M a j x).1 a i) := by
  funext i
  rw [en_wI_at]
  unfold upd
  by_cases h : i = j
  · rw [if_pos h, if_pos h]
  · rw [if_neg h, if_neg h]
theorem en_updL {a j : Nat} {x : Int} : vp_updL (fun i => Int64.ofInt (M.2 a i)) j (Int64.ofInt x) = fun i => Int64.ofInt ((en_wL M a j x).2 a i) := by
  funext i
  rw [en_wL_at]
  unfold vp_updL
  by_cases h : i = j
  · rw [if_pos h, if_pos h]
  · rw [if_neg h, if_neg h]
theorem en_ne84 {a kd n : Nat} (hl : en_lay[a]? = some (kd, n)) (hk : kd ≠ 1) : a ≠ 84 := by
  intro z
  subst z
  exact hk (en_lay84k hl)
theorem en_s_iast (X : en_Fx p R s m args c cc own nL h bu0 A cd D cs sc) {n a : Nat} {i x : Int} (hdg : decode cc pc = .ok (.iastore, 1)) (hk : ∀ ls st M bu, k ls st M bu → en_At p l e R s m args below meth c Q nL A cd D cs ad0 M0 sc.1 bu0 (pc + 1) ls st M bu) (hs : en_ix i n (fun j => k ls r (en_wI M a j x) bu)) : en_At p l e R s m args below meth c Q nL A cd D cs ad0 M0 sc.1 bu0 pc ls (.inl x :: .inl i :: .inr (.inr (2, n, a)) :: r) M bu := by
  intro hb ad H locs lsA I
  obtain ⟨hl, ha⟩ := en_ok_ref I.tl.tl.hd (by decide) (by decide)
  obtain ⟨j, rfl, hj, hs⟩ := hs
  obtain ⟨i0, hi0, hi1⟩ := en_wd_at (ad := ad) (cs := cs) ha
  rw [en_at2 hl] at hi1
  obtain ⟨g1, g2⟩ := en_ix_in hj (en_lay_n hl)
  refine va_iast X.1 X.2.1 X.2.2.2.2.2.1 I.2.2.2.2.2.1 I.2.2.2.2.2.2.1 I.2.2.2.2.2.2.2.1 i0 0 hi1 rfl g1 hdg (fun H1 locs1 hP hD hS => ?_)
  have hpl := en_pl_wI (M := M) (a := a) (j := j) (x := x) (fun z => absurd z (en_ne84 hl (by decide)))
  rw [g2, en_updI, ← en_at2 (ad := ad) hl, en_wd_set hi0 hpl (fun b hb => en_cell_ne hb)] at hP hD
  exact hk _ _ _ _ hs hb ad H1 locs1 lsA (I.tl.tl.tl.wr hpl hP hD hS)
theorem en_s_zast (X : en_Fx p R s m args c cc own nL h bu0 A cd D cs sc) {n a : Nat} {i x : Int} (hx : x = 0 ∨ x = 1) (hdg : decode cc pc = .ok (.bastore, 1)) (hk : ∀ ls st M bu, k ls st M bu → en_At p l e R s m args below meth c Q nL A cd D cs ad0 M0 sc.1 bu0 (pc + 1) ls st M bu) (hs : en_ix i n (fun j => k ls r (en_wI M a j x) bu)) : en_At p l e R s m args below meth c Q nL A cd D cs ad0 M0 sc.1 bu0 pc ls (.inl x :: .inl i :: .inr (.inr (3, n, a)) :: r) M bu := by
  intro hb ad H locs lsA I
  obtain ⟨hl, ha⟩ := en_ok_ref I.tl.tl.hd (by decide) (by decide)
  obtain ⟨j, rfl, hj, hs⟩ := hs
  obtain ⟨i0, hi0, hi1⟩ := en_wd_at (ad := ad) (cs := cs) ha
  rw [en_at3 hl] at hi1
  obtain ⟨g1, g2⟩ := en_ix_in hj (en_lay_n hl)
  refine va_zast X.1 X.2.1 X.2.2.2.2.2.1 I.2.2.2.2.2.1 I.2.2.2.2.2.2.1 I.2.2.2.2.2.2.2.1 i0 1 hi1 rfl g1 hdg (fun H1 locs1 hP hD hS => ?_)
  have hpl := en_pl_wI (M := M) (a := a) (j := j) (x := x) (fun z => absurd z (en_ne84 hl (by decide)))
  have hnz : vp_nar .boolean (Int32.ofInt x) = Int32.ofInt x := by rcases hx with rfl | rfl <;> rfl
  rw [g2, hnz, en_updI, ← en_at3 (ad := ad) hl, en_wd_set hi0 hpl (fun b hb => en_cell_ne hb)] at hP hD
  exact hk _ _ _ _ hs hb ad H1 locs1 lsA (I.tl.tl.tl.wr hpl hP hD hS)
theorem en_s_last (X : en_Fx p R s m args c cc own nL h bu0 A cd D cs sc) {n a : Nat} {i x : Int} (hdg : decode cc pc = .ok (.lastore, 1)) (hk : ∀ ls st M bu, k ls st M bu → en_At p l e R s m args below meth c Q nL A cd D cs ad0 M0 sc.1 bu0 (pc + 1) ls st M bu) (hs : en_ix i n (fun j => k ls r (en_wL M a j x) bu)) : en_At p l e R s m args below meth c Q nL A cd D cs ad0 M0 sc.1 bu0 pc ls (.inr (.inl x) :: .inl i :: .inr (.inr (4, n, a)) :: r) M bu := by
  intro hb ad H locs lsA I
  obtain ⟨hl, ha⟩ := en_ok_ref I.tl.tl.hd (by decide) (by decide)
  obtain ⟨j, rfl, hj, hs⟩ := hs
  obtain ⟨i0, hi0, hi1⟩ := en_wd_at (ad := ad) (cs := cs) ha
  rw [en_at4 hl] at hi1
  obtain ⟨g1, g2⟩ := en_ix_in hj (en_lay_n hl)
  refine va_last X.1 X.2.1 X.2.2.2.2.2.1 I.2.2.2.2.2.1 I.2.2.2.2.2.2.1 I.2.2.2.2.2.2.2.1 i0 2 hi1 rfl g1 hdg (fun H1 locs1 hP hD hS => ?_)
  have hpl := en_pl_wL (M := M) (a := a) (j := j) (x := x)
  rw [g2, en_updL, ← en_at4 (ad := ad) hl, en_wd_set hi0 hpl (fun b hb => en_cell_congr rfl (en_wL_ne hb))] at hP hD
  exact hk _ _ _ _ hs hb ad H1 locs1 lsA (I.tl.tl.tl.wr hpl hP hD hS)
/-- an array of references: its parts -/
theorem en_at5 {n a : Nat} (hl : en_lay[a]? = some (5, n)) : en_cell ad cs M a = .inl (cs (en_ra.getD n (0, 0, 0, 0, 0, 0)).2.2.2.2.2, (en_ra.getD n (0, 0, 0, 0, 0, 0)).1, .inr (.inr (.inr (.inr (fun j => if j < (en_ra.getD n (0, 0, 0, 0, 0, 0)).1 then some (ad (a + (en_ra.getD n (0, 0, 0, 0, 0, 0)).2.2.2.1 + (en_ra.getD n (0, 0, 0, 0, 0, 0)).2.2.2.2.1 * j)) else none))))) := by
  unfold en_cell
  rw [en_layD hl]
  rfl
theorem en_ra_tys {n : Nat} {j : Nat} (h : j < (en_ra.getD n (0, 0, 0, 0, 0, 0)).1) : ∃ ty, (en_tys cs)[(en_ra.getD n (0, 0, 0, 0, 0, 0)).2.2.2.2.2]? = some (cs (en_ra.getD n (0, 0, 0, 0, 0, 0)).2.2.2.2.2, ty) ∧ refKind ty = true ∧ (en_ra.getD n (0, 0, 0, 0, 0, 0)).1 < 2 ^ 31 := by
  match n, h with
  | 0, _ => exact ⟨_, rfl, rfl, by decide⟩
  | 1, _ => exact ⟨_, rfl, rfl, by decide⟩
  | 2, _ => exact ⟨_, rfl, rfl, by decide⟩
  | n + 3, h => exact absurd h (Nat.not_lt_zero _)
theorem en_part5 {a n j : Nat} (hl : en_lay[a]? = some (5, n)) (ha : a ∈ en_pl M) (hj : j < (en_ra.getD n (0, 0, 0, 0, 0, 0)).1) : 1 ≤ (en_ra.getD n (0, 0, 0, 0, 0, 0)).2.1 ∧ (en_ra.getD n (0, 0, 0, 0, 0, 0)).2.1 ≤ 5 ∧ en_lay[a + (en_ra.getD n (0, 0, 0, 0, 0, 0)).2.2.2.1 + (en_ra.getD n (0, 0, 0, 0, 0, 0)).2.2.2.2.1 * j]? = some ((en_ra.getD n (0, 0, 0, 0, 0, 0)).2.1, (en_ra.getD n (0, 0, 0, 0, 0, 0)).2.2.1) ∧ a + (en_ra.getD n (0, 0, 0, 0, 0, 0)).2.2.2.1 + (en_ra.getD n (0, 0, 0, 0, 0, 0)).2.2.2.2.1 * j ∈ en_pl M := by
  have hc := en_chk_at (en_pl_lt ha)
  unfold en_chk at hc
  rw [en_layD hl] at hc
  simp only [Bool.and_eq_true, decide_eq_true_eq] at hc
  have h1 := List.all_eq_true.mp hc.2 j (List.mem_range.mpr hj)
  simp only [Bool.and_eq_true, Bool.or_eq_true, decide_eq_true_eq] at h1
  refine ⟨hc.1.1, hc.1.2, h1.1, en_pl_same ha ?_⟩
  rcases h1.2 with q | q | q
  · exact Or.inl q
  · exact Or.inr (Or.inl ⟨q.1, q.2.1, Nat.le_trans q.1 (Nat.le_trans (Nat.le_add_right _ _) (Nat.le_add_right _ _)), q.2.2⟩)
  · exact Or.inr (Or.inr ⟨q.1, Nat.le_trans q.1 (Nat.le_trans (Nat.le_add_right _ _) (Nat.le_add_right _ _)), q.2⟩)
theorem en_s_aald (X : en_Fx p R s m args c cc own nL h bu0 A cd D cs sc) {n a : Nat} {i : Int} (hdg : decode cc pc = .ok (.aaload, 1)) (hk : ∀ ls st M bu, k ls st M bu → en_At p l e R s m args below meth c Q nL A cd D cs ad0 M0 sc.1 bu0 (pc + 1) ls st M bu) (hs : en_ix i (en_ra.getD n (0, 0, 0, 0, 0, 0)).1 (fun j => k ls (.inr (.inr ((en_ra.getD n (0, 0, 0, 0, 0, 0)).2.1, (en_ra.getD n (0, 0, 0, 0, 0, 0)).2.2.1, a + (en_ra.getD n (0, 0, 0, 0, 0, 0)).2.2.2.1 + (en_ra.getD n (0, 0, 0, 0, 0, 0)).2.2.2.2.1 * j)) :: r) M bu)) : en_At p l e R s m args below meth c Q nL A cd D cs ad0 M0 sc.1 bu0 pc ls (.inl i :: .inr (.inr (5, n, a)) :: r) M bu := by
  intro hb ad H locs lsA I
  obtain ⟨hl, ha⟩ := en_ok_ref I.tl.hd (by decide) (by decide)
  obtain ⟨j, rfl, hj, hs⟩ := hs
  obtain ⟨i0, hi0, hi1⟩ := en_wd_at (ad := ad) (cs := cs) ha
  rw [en_at5 hl] at hi1
  obtain ⟨ty, ht, hr, h31⟩ := en_ra_tys (cs := cs) hj
  obtain ⟨g1, g2⟩ := en_ix_in hj h31
  obtain ⟨z1, z2, z3, z4⟩ := en_part5 hl ha hj
  have hh := hk _ _ _ _ hs hb ad H locs lsA (I.tl.tl.pu (by
      generalize (en_ra.getD n (0, 0, 0, 0, 0, 0)).2.1 = tk at z1 z2 z3 ⊢
      cases tk with
      | zero => omega
      | succ tk => exact Or.inl ⟨z2, z3, z4⟩))
  rw [List.map_cons, en_rv_ref z1 z2] at hh
  have hP := I.2.2.2.2.2.1 i0 _ hi1
  refine W.aald (v := .ref (ad (a + (en_ra.getD n (0, 0, 0, 0, 0, 0)).2.2.2.1 + (en_ra.getD n (0, 0, 0, 0, 0, 0)).2.2.2.2.1 * j))) (ty := ty) X.1 X.2.1 hP ((X.2.2.2.2.2.1.2 _ _ ht).1 _ (fun j => va_rf _)) hr (fun q => by cases q) (by show ¬ (_ ∨ (arrV _ _ _).slots.size ≤ _); rw [arrV_size]; exact g1) (by show (arrV _ _ _).slots[_]? = _; rw [g2, arrV_read _ _ hj]; dsimp only; rw [if_pos hj]; rfl) rfl rfl hdg hh
theorem en_s_alen (X : en_Fx p R s m args c cc own nL h bu0 A cd D cs sc) {kd n a : Nat} (h1 : 2 ≤ kd) (h2 : kd ≤ 4) (hdg : decode cc pc = .ok (.arraylength, 1)) (hk : ∀ ls st M bu, k ls st M bu → en_At p l e R s m args below meth c Q nL A cd D cs ad0 M0 sc.1 bu0 (pc + 1) ls st M bu) (hs : k ls (.inl (n : Nat) :: r) M bu) : en_At p l e R s m args below meth c Q nL A cd D cs ad0 M0 sc.1 bu0 pc ls (.inr (.inr (kd, n, a)) :: r) M bu := by
  intro hb ad H locs lsA I
  obtain ⟨hl, ha⟩ := en_ok_ref I.hd (by omega) (by omega)
  obtain ⟨i0, hi0, hi1⟩ := en_wd_at (ad := ad) (cs := cs) ha
  have hh := hk _ _ _ _ hs hb ad H locs lsA (I.tl.pu (en_okI _ _ _))
  match kd, h1, h2, hl with
  | 2, _, _, hl =>
    rw [en_at2 hl] at hi1
    exact va_alen X.1 X.2.1 X.2.2.2.2.2.1 I.2.2.2.2.2.1 i0 0 hi1 rfl (Int32.ofInt_eq_ofNat).symm hdg hh
  | 3, _, _, hl =>
    rw [en_at3 hl] at hi1
    exact va_alen X.1 X.2.1 X.2.2.2.2.2.1 I.2.2.2.2.2.1 i0 1 hi1 rfl (Int32.ofInt_eq_ofNat).symm hdg hh
  | 4, _, _, hl =>
    rw [en_at4 hl] at hi1
    exact va_alen X.1 X.2.1 X.2.2.2.2.2.1 I.2.2.2.2.2.1 i0 2 hi1 rfl (Int32.ofInt_eq_ofNat).symm hdg hh
end EN3
