/-! instructions on the stack, branches, fields, rows -/
section EN2
variable {ad : Nat → Nat} {H : Heap} {locs : List Loc} {lsA : Array Slot}
variable {p : Program} {l : Launch} {e : Env} {R : Room} {s : State} {m : MethodId} {args : Array Value} {below : List Frame} {meth : Method} {c : Code} {Q : State → Prop} {cc : ByteArray} {own : String} {nL h bu0 : Nat} {A : Nat → Prop} {cd : Nat → Nat → Nat} {D : va_G} {cs : Nat → ClassId} {sc : Nat × (Nat → Int)} {ad0 : Nat → Nat} {M0 : Mm} {pc : Nat} {ls : AL} {st r : List AV} {M : Mm} {bu : Nat} {k : AK} {K : Nat → AK}
theorem en_cat1 {v : AV} (h : Nat.beq (en_cat v) 1 = true) : (en_rv ad cd v).category = 1 := by
  rw [en_cat_eq]
  exact Nat.eq_of_beq_eq_true h
theorem en_s_dup (X : en_Fx p R s m args c cc own nL h bu0 A cd D cs sc) {v : AV} (hv : Nat.beq (en_cat v) 1 = true) (hdg : decode cc pc = .ok (.dup, 1)) (hk : ∀ ls st M bu, k ls st M bu → en_At p l e R s m args below meth c Q nL A cd D cs ad0 M0 sc.1 bu0 (pc + 1) ls st M bu) (hs : k ls (v :: v :: r) M bu) : en_At p l e R s m args below meth c Q nL A cd D cs ad0 M0 sc.1 bu0 pc ls (v :: r) M bu := by
  intro hb ad H locs lsA I
  exact lv_dup X.1 X.2.1 hdg (en_cat1 hv) (hk _ _ _ _ hs hb ad H locs lsA (I.pu I.hd))
theorem en_s_pop (X : en_Fx p R s m args c cc own nL h bu0 A cd D cs sc) {v : AV} (hv : Nat.beq (en_cat v) 1 = true) (hdg : decode cc pc = .ok (.pop, 1)) (hk : ∀ ls st M bu, k ls st M bu → en_At p l e R s m args below meth c Q nL A cd D cs ad0 M0 sc.1 bu0 (pc + 1) ls st M bu) (hs : k ls r M bu) : en_At p l e R s m args below meth c Q nL A cd D cs ad0 M0 sc.1 bu0 pc ls (v :: r) M bu := by
  intro hb ad H locs lsA I
  exact lv_pop X.1 X.2.1 hdg (en_cat1 hv) (hk _ _ _ _ hs hb ad H locs lsA I.tl)
theorem en_s_dup_x1 (X : en_Fx p R s m args c cc own nL h bu0 A cd D cs sc) {v w : AV} (hv : Nat.beq (en_cat v) 1 = true) (hw : Nat.beq (en_cat w) 1 = true) (hdg : decode cc pc = .ok (.dup_x1, 1)) (hk : ∀ ls st M bu, k ls st M bu → en_At p l e R s m args below meth c Q nL A cd D cs ad0 M0 sc.1 bu0 (pc + 1) ls st M bu) (hs : k ls (v :: w :: v :: r) M bu) : en_At p l e R s m args below meth c Q nL A cd D cs ad0 M0 sc.1 bu0 pc ls (v :: w :: r) M bu := by
  intro hb ad H locs lsA I
  exact lv_dup_x1 X.1 X.2.1 hdg (en_cat1 hv) (en_cat1 hw) (hk _ _ _ _ hs hb ad H locs lsA (((I.tl.tl.pu I.hd).pu I.tl.hd).pu I.hd))
theorem en_s_dup_x2 (X : en_Fx p R s m args c cc own nL h bu0 A cd D cs sc) {v w u : AV} (hv : Nat.beq (en_cat v) 1 = true) (hw : Nat.beq (en_cat w) 1 = true) (hu : Nat.beq (en_cat u) 1 = true) (hdg : decode cc pc = .ok (.dup_x2, 1)) (hk : ∀ ls st M bu, k ls st M bu → en_At p l e R s m args below meth c Q nL A cd D cs ad0 M0 sc.1 bu0 (pc + 1) ls st M bu) (hs : k ls (v :: w :: u :: v :: r) M bu) : en_At p l e R s m args below meth c Q nL A cd D cs ad0 M0 sc.1 bu0 pc ls (v :: w :: u :: r) M bu := by
  intro hb ad H locs lsA I
  exact lv_dup_x2 X.1 X.2.1 hdg (en_cat1 hv) (en_cat1 hw) (en_cat1 hu) (hk _ _ _ _ hs hb ad H locs lsA ((((I.tl.tl.tl.pu I.hd).pu I.tl.tl.hd).pu I.tl.hd).pu I.hd))
theorem en_s_dup2 (X : en_Fx p R s m args c cc own nL h bu0 A cd D cs sc) {v w : AV} (hv : Nat.beq (en_cat v) 1 = true) (hw : Nat.beq (en_cat w) 1 = true) (hdg : decode cc pc = .ok (.dup2, 1)) (hk : ∀ ls st M bu, k ls st M bu → en_At p l e R s m args below meth c Q nL A cd D cs ad0 M0 sc.1 bu0 (pc + 1) ls st M bu) (hs : k ls (v :: w :: v :: w :: r) M bu) : en_At p l e R s m args below meth c Q nL A cd D cs ad0 M0 sc.1 bu0 pc ls (v :: w :: r) M bu := by
  intro hb ad H locs lsA I
  exact lv_dup2_11 X.1 X.2.1 hdg (en_cat1 hv) (en_cat1 hw) (hk _ _ _ _ hs hb ad H locs lsA ((I.pu I.tl.hd).pu I.hd))
theorem en_s_goto (X : en_Fx p R s m args c cc own nL h bu0 A cd D cs sc) {off : Int} {t : Nat} (ht : (pc : Int) + off = (t : Int)) (hdg : decode cc pc = .ok (.goto off, 3)) (hK : ∀ t ls st M bu, K t ls st M bu → en_At p l e R s m args below meth c Q nL A cd D cs ad0 M0 sc.1 bu0 t ls st M bu) (hs : K t ls st M bu) : en_At p l e R s m args below meth c Q nL A cd D cs ad0 M0 sc.1 bu0 pc ls st M bu := by
  intro hb ad H locs lsA I
  exact lv_goto X.1 X.2.1 hdg ht (hK _ _ _ _ _ hs hb ad H locs lsA I)
theorem en_lt_iff {a b : Int} : Int32.ofInt a < Int32.ofInt b ↔ en_wr a < en_wr b := Int32.lt_iff_toInt_lt
theorem en_le_iff {a b : Int} : Int32.ofInt a ≤ Int32.ofInt b ↔ en_wr a ≤ en_wr b := Int32.le_iff_toInt_le
theorem en_eq_iff {a b : Int} : Int32.ofInt a = Int32.ofInt b ↔ en_wr a = en_wr b := Int32.toInt_inj.symm
theorem en_s_icmp (X : en_Fx p R s m args c cc own nL h bu0 A cd D cs sc) {cn : ClassFile.Cond} {off : Int} {t : Nat} {a b : Int} (ht : (pc : Int) + off = (t : Int)) (hdg : decode cc pc = .ok (.if_icmp cn off, 3)) (hk : ∀ ls st M bu, k ls st M bu → en_At p l e R s m args below meth c Q nL A cd D cs ad0 M0 sc.1 bu0 (pc + 3) ls st M bu) (hK : ∀ t ls st M bu, K t ls st M bu → en_At p l e R s m args below meth c Q nL A cd D cs ad0 M0 sc.1 bu0 t ls st M bu) (hs : (en_cmp cn a b → K t ls r M bu) ∧ (¬ en_cmp cn a b → k ls r M bu)) : en_At p l e R s m args below meth c Q nL A cd D cs ad0 M0 sc.1 bu0 pc ls (.inl b :: .inl a :: r) M bu := by
  intro hb ad H locs lsA I
  have k1 := fun q => hK _ _ _ _ _ (hs.1 q) hb ad H locs lsA I.tl.tl
  have k2 := fun q => hk _ _ _ _ (hs.2 q) hb ad H locs lsA I.tl.tl
  cases cn with
  | eq => exact lv_icmp_eq X.1 X.2.1 hdg ht (fun q => k1 (en_eq_iff.mp q)) (fun q => k2 (fun z => q (en_eq_iff.mpr z)))
  | ne => exact lv_icmp_ne X.1 X.2.1 hdg ht (fun q => k1 (fun z => q (en_eq_iff.mpr z))) (fun q => k2 (fun z => z (en_eq_iff.mp q)))
  | lt => exact lv_icmp_lt X.1 X.2.1 hdg ht (fun q => k1 (en_lt_iff.mp q)) (fun q => k2 (fun z => q (en_lt_iff.mpr z)))
  | ge => exact lv_icmp_ge X.1 X.2.1 hdg ht (fun q => k1 (en_le_iff.mp q)) (fun q => k2 (fun z => q (en_le_iff.mpr z)))
  | gt => exact lv_icmp_gt X.1 X.2.1 hdg ht (fun q => k1 (en_lt_iff.mp q)) (fun q => k2 (fun z => q (en_lt_iff.mpr z)))
  | le => exact lv_icmp_le X.1 X.2.1 hdg ht (fun q => k1 (en_le_iff.mp q)) (fun q => k2 (fun z => q (en_le_iff.mpr z)))
theorem en_s_if (X : en_Fx p R s m args c cc own nL h bu0 A cd D cs sc) {cn : ClassFile.Cond} {off : Int} {t : Nat} {a : Int} (ht : (pc : Int) + off = (t : Int)) (hdg : decode cc pc = .ok (.ifCond cn off, 3)) (hk : ∀ ls st M bu, k ls st M bu → en_At p l e R s m args below meth c Q nL A cd D cs ad0 M0 sc.1 bu0 (pc + 3) ls st M bu) (hK : ∀ t ls st M bu, K t ls st M bu → en_At p l e R s m args below meth c Q nL A cd D cs ad0 M0 sc.1 bu0 t ls st M bu) (hs : (en_cmp cn a 0 → K t ls r M bu) ∧ (¬ en_cmp cn a 0 → k ls r M bu)) : en_At p l e R s m args below meth c Q nL A cd D cs ad0 M0 sc.1 bu0 pc ls (.inl a :: r) M bu := by
  intro hb ad H locs lsA I
  have k1 := fun q => hK _ _ _ _ _ (hs.1 q) hb ad H locs lsA I.tl
  have k2 := fun q => hk _ _ _ _ (hs.2 q) hb ad H locs lsA I.tl
  have z0 : Int32.ofInt 0 = 0 := rfl
  cases cn with
  | eq => exact lv_if_eq X.1 X.2.1 hdg ht (fun q => k1 (en_eq_iff.mp (q.trans z0.symm))) (fun q => k2 (fun z => q ((en_eq_iff.mpr z).trans z0)))
  | ne => exact lv_if_ne X.1 X.2.1 hdg ht (fun q => k1 (fun z => q ((en_eq_iff.mpr z).trans z0))) (fun q => k2 (fun z => z (en_eq_iff.mp (q.trans z0.symm))))
  | lt => exact lv_if_lt X.1 X.2.1 hdg ht (fun q => k1 (en_lt_iff.mp (by rw [z0]; exact q))) (fun q => k2 (fun z => q (by have := en_lt_iff.mpr z; rw [z0] at this; exact this)))
  | ge => exact lv_if_ge X.1 X.2.1 hdg ht (fun q => k1 (en_le_iff.mp (by rw [z0]; exact q))) (fun q => k2 (fun z => q (by have := en_le_iff.mpr z; rw [z0] at this; exact this)))
  | gt => exact lv_if_gt X.1 X.2.1 hdg ht (fun q => k1 (en_lt_iff.mp (by rw [z0]; exact q))) (fun q => k2 (fun z => q (by have := en_lt_iff.mpr z; rw [z0] at this; exact this)))
  | le => exact lv_if_le X.1 X.2.1 hdg ht (fun q => k1 (en_le_iff.mp (by rw [z0]; exact q))) (fun q => k2 (fun z => q (by have := en_le_iff.mpr z; rw [z0] at this; exact this)))
theorem en_s_nnN (X : en_Fx p R s m args c cc own nL h bu0 A cd D cs sc) {off : Int} {a b : Nat} (hdg : decode cc pc = .ok (.ifnonnull off, 3)) (hk : ∀ ls st M bu, k ls st M bu → en_At p l e R s m args below meth c Q nL A cd D cs ad0 M0 sc.1 bu0 (pc + 3) ls st M bu) (hs : k ls r M bu) : en_At p l e R s m args below meth c Q nL A cd D cs ad0 M0 sc.1 bu0 pc ls (.inr (.inr (0, a, b)) :: r) M bu := by
  intro hb ad H locs lsA I
  exact lv_ifnonnullN X.1 X.2.1 hdg (hk _ _ _ _ hs hb ad H locs lsA I.tl)
theorem en_s_nn (X : en_Fx p R s m args c cc own nL h bu0 A cd D cs sc) {off : Int} {t : Nat} {a b : Nat} (ht : (pc : Int) + off = (t : Int)) (hdg : decode cc pc = .ok (.ifnonnull off, 3)) (hK : ∀ t ls st M bu, K t ls st M bu → en_At p l e R s m args below meth c Q nL A cd D cs ad0 M0 sc.1 bu0 t ls st M bu) (hs : K t ls r M bu) : en_At p l e R s m args below meth c Q nL A cd D cs ad0 M0 sc.1 bu0 pc ls (.inr (.inr (1, a, b)) :: r) M bu := by
  intro hb ad H locs lsA I
  exact lv_ifnonnull X.1 X.2.1 hdg ht (hK _ _ _ _ _ hs hb ad H locs lsA I.tl)
/-- a switch's words: its places, one after the other -/
def en_tbok (pc : Nat) (offs : List Int) (ts : List Nat) : Bool := decide (offs.map (fun o => (pc : Int) + o) = ts.map (fun (t : Nat) => (t : Int)))
theorem en_tb_spec {x : Int} {P : Nat → Prop} {d : Nat} : ∀ (ts : List Nat) (lo : Int), en_tb x lo P d ts → (x < lo ∨ lo + ts.length ≤ x → P d) ∧ ∀ j : Nat, j < ts.length → x = lo + j → P (ts.getD j 0)
  | [], lo, hh => ⟨fun _ => hh, fun j hj => absurd hj (Nat.not_lt_zero j)⟩
  | t :: ts, lo, hh => by
    obtain ⟨h1, h2⟩ := hh
    refine ⟨fun q => ?_, fun j hj he => ?_⟩
    · have hne : ¬ x = lo := by
        intro z
        simp only [List.length_cons] at q
        omega
      refine (en_tb_spec ts (lo + 1) (h2 hne)).1 ?_
      simp only [List.length_cons] at q
      omega
    · cases j with
      | zero => exact h1 (by simpa using he)
      | succ j =>
        have hne : ¬ x = lo := by omega
        exact (en_tb_spec ts (lo + 1) (h2 hne)).2 j (by simpa using hj) (by omega)
theorem en_s_sw (X : en_Fx p R s m args c cc own nL h bu0 A cd D cs sc) {d lo hi : Int} {offs : Array Int} {len dt : Nat} {ts : List Nat} {a : Int} (h1 : (pc : Int) + d = (dt : Int)) (h2 : en_tbok pc offs.toList ts = true) (h3 : hi = lo + ts.length - 1) (hdg : decode cc pc = .ok (.tableswitch d lo hi offs, len)) (hK : ∀ t ls st M bu, K t ls st M bu → en_At p l e R s m args below meth c Q nL A cd D cs ad0 M0 sc.1 bu0 t ls st M bu) (hs : en_tb (en_wr a) lo (fun t => K t ls r M bu) dt ts) : en_At p l e R s m args below meth c Q nL A cd D cs ad0 M0 sc.1 bu0 pc ls (.inl a :: r) M bu := by
  intro hb ad H locs lsA I
  obtain ⟨g1, g2⟩ := en_tb_spec ts lo hs
  by_cases hq : en_wr a < lo ∨ hi < en_wr a
  · exact lv_tableOut X.1 X.2.1 hdg hq h1 (hK _ _ _ _ _ (g1 (by omega)) hb ad H locs lsA I.tl)
  · have hj : (en_wr a - lo).toNat < ts.length := by omega
    have hm := of_decide_eq_true h2
    have hlen : offs.toList.length = ts.length := by
      have := congrArg List.length hm
      simpa using this
    have hg : offs[(en_wr a - lo).toNat]? = some (offs.toList[(en_wr a - lo).toNat]'(by rw [hlen]; exact hj)) := by
      rw [← Array.getElem?_toList]
      exact List.getElem?_eq_getElem _
    have ht : (pc : Int) + (offs.toList[(en_wr a - lo).toNat]'(by rw [hlen]; exact hj)) = ((ts.getD (en_wr a - lo).toNat 0 : Nat) : Int) := by
      have := congrArg (fun (q : List Int) => q[(en_wr a - lo).toNat]?) hm
      simp only [List.getElem?_map] at this
      rw [List.getElem?_eq_getElem (by rw [hlen]; exact hj), List.getElem?_eq_getElem hj] at this
      simp only [Option.map_some, Option.some.injEq] at this
      rw [this, List.getD_eq_getElem?_getD, List.getElem?_eq_getElem hj]
      rfl
    exact lv_tableIn X.1 X.2.1 hdg (fun q => hq (Or.inl q)) (fun q => hq (Or.inr q)) hg ht (hK _ _ _ _ _ (g2 _ hj (by omega)) hb ad H locs lsA I.tl)
end EN2
