theorem L_fw {post : Option AV → Mm → Prop} (e : Nat) (M : Mm) (hn : s_num (vE M e)) (hW : s_wok (vE M e)) (p : Nat) (hp : p < 4) (A L m : Nat) (hm : m ≤ L) (hL : L ≤ 40) (hr : ∀ i : Nat, i < m → -9223372036854775808 ≤ M.2 A i ∧ M.2 A i < 9223372036854775808) : ∀ (n : Nat) (i : Nat) (tk : Nat), (i + n = m) → (tk < 2 ^ 5) → (post (some (.inl (s_fw (vE M e) p (M.2 A) n i tk))) M) → en_AW 3 0 22 post 6 [some (.inr (.inr (1, 1, e))), some (.inl ((p : Nat) : Int)), some (.inr (.inr (4, L, A))), some (.inl ((m : Nat) : Int)), some (.inl ((tk : Nat) : Int)), some (.inl ((i : Nat) : Int)), none] [] M 0 := by
  intro n
  induction n with
  | zero =>
    intro i tk hi ht hq
    obtain ⟨n0, n1, n2, a0, a1, a2, a3, a4, a5, a6, a7⟩ := nm_E hn
    refine aw_22_6 ?_
    refine br_ge_y (a := ((i : Nat) : Int)) (b := ((m : Nat) : Int)) (by omega) (by omega) (by omega) ?_
    refine aw_22_93 ?_
    exact hq
  | succ n ih =>
    intro i tk hi ht hq
    obtain ⟨n0, n1, n2, a0, a1, a2, a3, a4, a5, a6, a7⟩ := nm_E hn
    have hri := hr i (by omega)
    refine aw_22_6 ?_
    refine br_ge_n (a := ((i : Nat) : Int)) (b := ((m : Nat) : Int)) (by omega) (by omega) (by omega) ?_
    refine ⟨i, rfl, (show i < L by omega), ?_⟩
    refine lc_lt (a := M.2 A i) (b := 0) (a' := M.2 A i) (b' := 0) (wl_of ⟨by omega, by omega⟩) (wl_of ⟨by omega, by omega⟩) (fun q2 => ?_) (fun q2 => ?_)
    · refine aw_22_34 ?_
      refine (show post (some (.inl ((i : Nat) : Int))) M from ?_)
      clear ih hW hr
      rw [s_fw_E] at hq
      grind
    · refine ⟨i, rfl, (show i < L by omega), ?_⟩
      refine lc_lt (a := M.2 A i) (b := en_wr (M.1 e 1)) (a' := M.2 A i) (b' := M.1 e 1) (wl_of ⟨by omega, by omega⟩) (wl_wr ⟨by omega, by omega⟩) (fun q3 => ?_) (fun q3 => ?_)
      · refine aw_22_37 ?_
        have hwd := wo_E (hW (M.2 A i).toNat (show (((M.2 A i).toNat : Nat) : Int) < M.1 e 1 by omega))
        have hbt := nu_bitI (a := tk) (x := M.1 (e + 4) (M.2 A i).toNat) (by omega) (by omega) (by omega)
        have hb1 := nu_and1 (en_shr ((tk : Nat) : Int) (M.1 (e + 4) (M.2 A i).toNat))
        refine ⟨i, rfl, (show i < L by omega), ?_⟩
        by_cases c4 : s_can (vE M e) p ((M.2 A i).toNat) = true
        · refine ⟨2, 0, by first | decide | omega, by first | decide | omega, en_Ct_t (R_canStand' e p (M.2 A i) _ (by omega) (by omega) (by omega) hW hn) c4 ?_⟩
          refine br_eq_n (by decide) (by decide) (by decide) ?_
          refine ⟨(M.2 A i).toNat, it_nn (x := M.2 A i) (by omega), (show (M.2 A i).toNat < 24 by omega), ?_⟩
          refine br_ne (a := en_and (en_shr ((tk : Nat) : Int) (M.1 (e + 4) ((M.2 A i).toNat))) 1) (b := 1) (by omega) (by omega) (fun q6 => ?_) (fun q6 => ?_)
          · refine aw_22_73 ?_
            refine ⟨(M.2 A i).toNat, it_nn (x := M.2 A i) (by omega), (show (M.2 A i).toNat < 24 by omega), ?_⟩
            refine en_AW_ls (congrArg (fun z_ : Int => ([some (.inr (.inr (1, 1, e))), some (.inl ((p : Nat) : Int)), some (.inr (.inr (4, L, A))), some (.inl ((m : Nat) : Int)), some (.inl z_), some (.inl (((i : Nat) : Int) + 1)), some (.inl (M.2 A i))] : AL)) (show en_or ((tk : Nat) : Int) (en_shl 1 (M.1 (e + 4) ((M.2 A i).toNat))) = ((tk ||| 2 ^ (M.1 (e + 4) (M.2 A i).toNat).toNat : Nat) : Int) from nu_orset (by omega) (by omega) (by omega))) ?_
            refine en_AW_drop [true, true, true, true, true, true, false] ?_
            exact ih (i + 1) _ (by omega) (nu_orlt ht (by omega)) (by clear ih hW hr; rw [s_fw_E] at hq; grind)
          · refine aw_22_70 ?_
            refine (show post (some (.inl ((i : Nat) : Int))) M from ?_)
            clear ih hW hr
            rw [s_fw_E] at hq
            grind
        · refine ⟨2, 0, by first | decide | omega, by first | decide | omega, en_Ct_f (R_canStand' e p (M.2 A i) _ (by omega) (by omega) (by omega) hW hn) c4 ?_⟩
          refine br_eq_y (by decide) (by decide) (by decide) ?_
          refine aw_22_70 ?_
          refine (show post (some (.inl ((i : Nat) : Int))) M from ?_)
          clear ih hW hr
          rw [s_fw_E] at hq
          grind
      · refine aw_22_34 ?_
        refine (show post (some (.inl ((i : Nat) : Int))) M from ?_)
        clear ih hW hr
        rw [s_fw_E] at hq
        grind
theorem R_fw (e : Nat) (M : Mm) (hn : s_num (vE M e)) (hW : s_wok (vE M e)) (p : Nat) (hp : p < 4) (A L m : Nat) (hm : m ≤ L) (hL : L ≤ 40) (hr : ∀ i : Nat, i < m → -9223372036854775808 ≤ M.2 A i ∧ M.2 A i < 9223372036854775808) : en_Ct 3 0 22 [.inr (.inr (1, 1, e)), .inl ((p : Nat) : Int), .inr (.inr (4, L, A)), .inl ((m : Nat) : Int)] M (fun r M' => r = some (.inl (s_fw (vE M e) p (M.2 A) m 0 0)) ∧ M' = M) := by
  obtain ⟨n0, n1, n2, a0, a1, a2, a3, a4, a5, a6, a7⟩ := nm_E hn
  refine ct_22 rfl ?_
  refine aw_22_0 ?_
  exact L_fw e M hn hW p hp A L m hm hL hr m 0 0 (by omega) (by decide) ⟨rfl, rfl⟩
theorem L_put {post : Option AV → Mm → Prop} (e : Nat) (M : Mm) (p : Nat) (hp : p < 4) (A L m : Nat) (hm : m ≤ L) (hm5 : m ≤ 5) (hx : en_AW 1 0 23 post 29 [some (.inr (.inr (1, 1, e))), some (.inl ((p : Nat) : Int)), some (.inr (.inr (4, L, A))), some (.inl ((m : Nat) : Int)), none] [] (pr M (e + 9 + 1 + 1 * p) (M.2 A) m) 0) : ∀ (n : Nat) (i : Nat), (i + n = m) → en_AW 1 0 23 post 3 [some (.inr (.inr (1, 1, e))), some (.inl ((p : Nat) : Int)), some (.inr (.inr (4, L, A))), some (.inl ((m : Nat) : Int)), some (.inl ((i : Nat) : Int))] [] (pr M (e + 9 + 1 + 1 * p) (M.2 A) i) 0 := by
  intro n
  induction n with
  | zero =>
    intro i hi
    refine aw_23_3 ?_
    refine br_ge_y (a := ((i : Nat) : Int)) (b := ((m : Nat) : Int)) (by omega) (by omega) (by omega) ?_
    refine en_AW_drop [true, true, true, true, false] ?_
    rw [show i = m by omega]
    exact hx
  | succ n ih =>
    intro i hi
    refine aw_23_3 ?_
    refine br_ge_n (a := ((i : Nat) : Int)) (b := ((m : Nat) : Int)) (by omega) (by omega) (by omega) ?_
    refine ⟨p, rfl, (show p < 4 by omega), ?_⟩
    refine ⟨i, rfl, (show i < L by omega), ?_⟩
    refine ⟨i, rfl, (show i < 5 by omega), ?_⟩
    refine en_AW_M (show en_wI (pr M (e + 9 + 1 + 1 * p) (M.2 A) i) (e + 9 + 1 + 1 * p) i ((pr M (e + 9 + 1 + 1 * p) (M.2 A) i).2 A i) = pr M (e + 9 + 1 + 1 * p) (M.2 A) (i + 1) from pr_step rfl) ?_
    exact ih (i + 1) (by omega)
theorem R_put (e : Nat) (M : Mm) (p : Nat) (hp : p < 4) (A L m : Nat) (hm : m ≤ L) (hm5 : m ≤ 5) : en_Ct 1 0 23 [.inr (.inr (1, 1, e)), .inl ((p : Nat) : Int), .inr (.inr (4, L, A)), .inl ((m : Nat) : Int)] M (fun r M' => r = none ∧ M' = en_wI (pr M (e + 9 + 1 + 1 * p) (M.2 A) m) (e + 14) p (m : Int)) := by
  refine ct_23 rfl ?_
  refine aw_23_0 ?_
  refine en_AW_M (show M = pr M (e + 9 + 1 + 1 * p) (M.2 A) 0 from pr_0.symm) ?_
  refine L_put e M p hp A L m hm hm5 ?_ m 0 (by omega)
  refine aw_23_29 ?_
  exact ⟨p, rfl, (show p < 4 by omega), rfl, rfl⟩
