/-! the machine's operations on small whole numbers -/
theorem nu_ofn (a : Nat) : Int32.ofInt (a : Int) = Int32.ofNat a := Int32.ofInt_eq_ofNat
theorem nu_tb {a : Nat} (h : a < 2 ^ 32) : (Int32.ofNat a).toBitVec.toNat = a := pk_tn h
theorem nu_ti {x : Int32} (h : x.toBitVec.toNat < 2 ^ 31) : x.toInt = (x.toBitVec.toNat : Int) := by
  show x.toBitVec.toInt = _
  exact BitVec.toInt_eq_toNat_of_lt (by omega)
theorem nu_or {a b : Nat} (ha : a < 2 ^ 31) (hb : b < 2 ^ 31) : en_or (a : Int) (b : Int) = ((a ||| b : Nat) : Int) := by
  unfold en_or
  rw [nu_ofn, nu_ofn]
  have e : (Int32.ofNat a ||| Int32.ofNat b).toBitVec.toNat = a ||| b := by
    rw [Int32.toBitVec_or, BitVec.toNat_or, nu_tb (by omega), nu_tb (by omega)]
  rw [nu_ti (by rw [e]; exact Nat.or_lt_two_pow ha hb), e]
theorem nu_and {a b : Nat} (ha : a < 2 ^ 31) (hb : b < 2 ^ 31) : en_and (a : Int) (b : Int) = ((a &&& b : Nat) : Int) := by
  unfold en_and
  rw [nu_ofn, nu_ofn]
  have e : (Int32.ofNat a &&& Int32.ofNat b).toBitVec.toNat = a &&& b := by
    rw [Int32.toBitVec_and, BitVec.toNat_and, nu_tb (by omega), nu_tb (by omega)]
  rw [nu_ti (by rw [e]; exact Nat.and_lt_two_pow _ hb), e]
theorem nu_xor {a b : Nat} (ha : a < 2 ^ 31) (hb : b < 2 ^ 31) : en_xor (a : Int) (b : Int) = ((a ^^^ b : Nat) : Int) := by
  unfold en_xor
  rw [nu_ofn, nu_ofn]
  have e : (Int32.ofNat a ^^^ Int32.ofNat b).toBitVec.toNat = a ^^^ b := by
    rw [Int32.toBitVec_xor, BitVec.toNat_xor, nu_tb (by omega), nu_tb (by omega)]
  rw [nu_ti (by rw [e]; exact Nat.xor_lt_two_pow ha hb), e]
theorem nu_shl1 : ∀ w : Nat, w < 31 → en_shl 1 (w : Int) = ((2 ^ w : Nat) : Int) := by decide +kernel
theorem nu_msk (w : Nat) (hw : w < 31) : Int32.ofInt (w : Int) &&& 31 = Int32.ofNat w := by
  have key : ∀ w : Nat, w < 31 → Int32.ofInt (w : Int) &&& 31 = Int32.ofNat w := by decide +kernel
  exact key w hw
theorem nu_smod (w : Nat) (hw : w < 31) : ((Int32.ofNat w).toBitVec.smod 32).toNat = w := by
  have key : ∀ w : Nat, w < 31 → ((Int32.ofNat w).toBitVec.smod 32).toNat = w := by decide +kernel
  exact key w hw
theorem nu_shr {a w : Nat} (ha : a < 2 ^ 31) (hw : w < 31) : en_shr (a : Int) (w : Int) = ((a / 2 ^ w : Nat) : Int) := by
  unfold en_shr
  rw [nu_msk w hw, nu_ofn]
  have h1 := pk_shrN ha (Int32.ofNat w) w (nu_smod w hw)
  rw [show (nI a) = Int32.ofNat a from rfl] at h1
  rw [h1]
  exact nI_toInt (Nat.lt_of_le_of_lt (Nat.div_le_self _ _) ha)
theorem nu_and1 (x : Int) : en_and x 1 = 0 ∨ en_and x 1 = 1 := by
  unfold en_and
  have h1 : (Int32.ofInt x &&& Int32.ofInt 1).toBitVec.toNat < 2 := by
    rw [Int32.toBitVec_and, BitVec.toNat_and]
    have : (Int32.ofInt 1).toBitVec.toNat = 1 := by decide
    rw [this, Nat.and_one_is_mod]
    omega
  rw [nu_ti (by omega)]
  omega
theorem nu_bit {a w : Nat} (ha : a < 2 ^ 31) (hw : w < 31) : en_and (en_shr (a : Int) (w : Int)) 1 = if a.testBit w then 1 else 0 := by
  rw [nu_shr ha hw]
  have h2 := nu_and (a := a / 2 ^ w) (b := 1) (Nat.lt_of_le_of_lt (Nat.div_le_self _ _) ha) (by decide)
  rw [show ((1 : Nat) : Int) = 1 from rfl] at h2
  rw [h2, Nat.and_one_is_mod, Nat.testBit_eq_decide_div_mod_eq]
  by_cases h : a / 2 ^ w % 2 = 1
  · simp [h]
  · have : a / 2 ^ w % 2 = 0 := by omega
    simp [this]
/-- a set of places, as bits -/
def bm (f : Nat → Bool) : Nat → Nat
  | 0 => 0
  | n + 1 => bm f n + (if f n then 2 ^ n else 0)
theorem bm_lt (f : Nat → Bool) : ∀ n, bm f n < 2 ^ n
  | 0 => by simp [bm]
  | n + 1 => by
    have := bm_lt f n
    unfold bm
    rw [Nat.pow_succ]
    split <;> omega
theorem bm_bit (f : Nat → Bool) : ∀ n i, (bm f n).testBit i = (decide (i < n) && f i)
  | 0, i => by simp [bm]
  | n + 1, i => by
    unfold bm
    have h1 := bm_lt f n
    by_cases hf : f n = true
    · rw [if_pos hf, Nat.add_comm]
      by_cases hi : i = n
      · subst hi
        rw [Nat.testBit_two_pow_add_eq, Nat.testBit_lt_two_pow h1]
        simp [hf]
      · by_cases hlt : i < n
        · rw [Nat.testBit_two_pow_add_gt hlt, bm_bit f n i]
          simp [hlt, Nat.lt_succ_of_lt hlt]
        · have : 2 ^ n + bm f n < 2 ^ i := by
            have : 2 ^ (n + 1) ≤ 2 ^ i := Nat.pow_le_pow_right (by decide) (by omega)
            rw [Nat.pow_succ] at this
            omega
          rw [Nat.testBit_lt_two_pow this]
          have h3 : ¬ i < n + 1 := by omega
          simp [h3]
    · rw [if_neg hf, Nat.add_zero, bm_bit f n i]
      by_cases hi : i = n
      · subst hi
        simp [hf]
      · have : decide (i < n + 1) = decide (i < n) := by
          apply decide_eq_decide.mpr
          omega
        rw [this]
theorem bm_ext {a b : Nat} (h : ∀ i, a.testBit i = b.testBit i) : a = b := Nat.eq_of_testBit_eq h
theorem bm_congr {f g : Nat → Bool} {n : Nat} (h : ∀ i, i < n → f i = g i) : bm f n = bm g n := by
  apply bm_ext
  intro i
  rw [bm_bit, bm_bit]
  by_cases hi : i < n
  · rw [h i hi]
  · simp [hi]
theorem bm_set {f : Nat → Bool} {n w : Nat} (hw : w < n) : bm f n ||| 2 ^ w = bm (fun i => f i || decide (i = w)) n := by
  apply bm_ext
  intro i
  rw [Nat.testBit_or, bm_bit, bm_bit, Nat.testBit_two_pow]
  by_cases hi : i = w
  · subst hi
    simp [hw]
  · have h2 : ¬ w = i := fun q => hi q.symm
    simp [hi, h2]
theorem bm_none (n : Nat) : bm (fun _ => false) n = 0 := by
  induction n with
  | zero => rfl
  | succ n ih => unfold bm; rw [ih]; rfl
theorem nu_div {a b : Nat} (ha : a < 2 ^ 31) (h0 : 0 < b) (hb : b < 2 ^ 31) : en_div (a : Int) (b : Int) = ((a / b : Nat) : Int) := by
  unfold en_div
  rw [nu_ofn, nu_ofn]
  have h1 := pk_div ha h0 hb
  rw [show (nI a) = Int32.ofNat a from rfl, show (nI b) = Int32.ofNat b from rfl] at h1
  rw [h1]
  exact nI_toInt (Nat.lt_of_le_of_lt (Nat.div_le_self _ _) ha)
theorem nu_rem {a b : Nat} (ha : a < 2 ^ 31) (h0 : 0 < b) (hb : b < 2 ^ 31) : en_rem (a : Int) (b : Int) = ((a % b : Nat) : Int) := by
  unfold en_rem
  rw [nu_ofn, nu_ofn]
  have h1 := pk_rem ha h0 hb
  rw [show (nI a) = Int32.ofNat a from rfl, show (nI b) = Int32.ofNat b from rfl] at h1
  rw [h1]
  exact nI_toInt (Nat.lt_of_lt_of_le (Nat.mod_lt _ h0) (Nat.le_of_lt hb))
theorem nu_half {x : Int} (h0 : 0 ≤ x) (h1 : x < 2147483648) : en_div x 2 = x / 2 := by
  have h := nu_div (a := x.toNat) (b := 2) (by omega) (by omega) (by omega)
  rw [show ((x.toNat : Nat) : Int) = x by omega, show ((2 : Nat) : Int) = 2 from rfl] at h
  rw [h]
  omega
theorem nu_orset {b : Nat} {x : Int} (hb : b < 2 ^ 31) (h0 : 0 ≤ x) (h1 : x < 31) : en_or (b : Int) (en_shl 1 x) = ((b ||| 2 ^ x.toNat : Nat) : Int) := by
  have e : x = ((x.toNat : Nat) : Int) := by omega
  have h2 := nu_shl1 x.toNat (by omega)
  rw [← e] at h2
  rw [h2]
  exact nu_or hb (Nat.pow_lt_pow_right (by decide) (by omega))
theorem nu_or0 {b : Nat} (hb : b < 2 ^ 31) : en_or (b : Int) 0 = (b : Int) := by
  have h := nu_or (a := b) (b := 0) hb (by decide)
  rw [Nat.or_zero] at h
  exact h
theorem nu_orlt {b w n : Nat} (hb : b < 2 ^ n) (hw : w < n) : b ||| 2 ^ w < 2 ^ n := Nat.or_lt_two_pow hb (Nat.pow_lt_pow_right (by decide) hw)
theorem nu_bitI {a : Nat} {x : Int} (ha : a < 2 ^ 31) (h0 : 0 ≤ x) (h1 : x < 31) : en_and (en_shr (a : Int) x) 1 = if a.testBit x.toNat then 1 else 0 := by
  have h := nu_bit (a := a) (w := x.toNat) ha (by omega)
  rw [show ((x.toNat : Nat) : Int) = x by omega] at h
  exact h
