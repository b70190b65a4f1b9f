/-! ===== numbers as sets ===== -/
def nd (a b : Nat) : Nat := a &&& (a ^^^ b)
theorem nd_bit (a b i : Nat) : (nd a b).testBit i = (a.testBit i && !b.testBit i) := by
  unfold nd
  rw [Nat.testBit_and, Nat.testBit_xor]
  cases a.testBit i <;> cases b.testBit i <;> rfl
theorem nd_le (a b : Nat) : nd a b ≤ a := Nat.and_le_left
def wit (n p : Nat) (z : Bool) : Nat := if z then n ||| 2 ^ p else nd n (2 ^ p)
theorem wit_bit (n p : Nat) (z : Bool) (i : Nat) : (wit n p z).testBit i = if i = p then z else n.testBit i := by
  unfold wit
  cases z
  · rw [if_neg (by decide), nd_bit, Nat.testBit_two_pow]
    by_cases h : i = p
    · subst h; simp
    · rw [if_neg h]
      simp [Ne.symm h]
  · rw [if_pos rfl, Nat.testBit_or, Nat.testBit_two_pow]
    by_cases h : i = p
    · subst h; simp
    · rw [if_neg h]
      simp [Ne.symm h]
theorem wit_lt {n p k : Nat} {z : Bool} (hn : n < 2 ^ k) (hp : p < k) : wit n p z < 2 ^ k := by
  unfold wit
  cases z
  · rw [if_neg (by decide)]; exact Nat.lt_of_le_of_lt (nd_le _ _) hn
  · rw [if_pos rfl]; exact Nat.or_lt_two_pow hn (Nat.pow_lt_pow_right (by decide) hp)
theorem bit_hi {n k i : Nat} (hn : n < 2 ^ k) (h : k ≤ i) : n.testBit i = false := Nat.testBit_lt_two_pow (Nat.lt_of_lt_of_le hn (Nat.pow_le_pow_right (by decide) h))
theorem bits_eq {a b k : Nat} (ha : a < 2 ^ k) (hb : b < 2 ^ k) (h : ∀ i, i < k → a.testBit i = b.testBit i) : a = b := by
  apply Nat.eq_of_testBit_eq
  intro i
  by_cases hi : i < k
  · exact h i hi
  · rw [bit_hi ha (by omega), bit_hi hb (by omega)]
theorem wit_new {n p : Nat} (hn : n < 2 ^ p) : wit n p false = n := by
  apply Nat.eq_of_testBit_eq
  intro i
  rw [wit_bit]
  by_cases h : i = p
  · subst h; rw [if_pos rfl, bit_hi hn (Nat.le_refl _)]
  · rw [if_neg h]
/-- the set of those below n -/
def sO (P : Nat → Bool) : Nat → Nat
  | 0 => 0
  | n + 1 => wit (sO P n) n (P n)
theorem sO_lt (P : Nat → Bool) : ∀ n, sO P n < 2 ^ n
  | 0 => Nat.one_pos
  | n + 1 => wit_lt (Nat.lt_of_lt_of_le (sO_lt P n) (Nat.pow_le_pow_right (by decide) (Nat.le_succ n))) (Nat.lt_succ_self n)
theorem sO_bit (P : Nat → Bool) (i : Nat) : ∀ n, (sO P n).testBit i = (decide (i < n) && P i)
  | 0 => by simp [sO]
  | n + 1 => by
    show (wit (sO P n) n (P n)).testBit i = _
    rw [wit_bit]
    by_cases h : i = n
    · subst h; simp
    · rw [if_neg h, sO_bit P i n]
      by_cases h2 : i < n
      · simp [h2, Nat.lt_succ_of_lt h2]
      · simp [h2, show ¬ i < n + 1 by omega]
theorem sO_ext {P Q : Nat → Bool} : ∀ {n : Nat}, (∀ i, i < n → P i = Q i) → sO P n = sO Q n
  | 0, _ => rfl
  | n + 1, h => by
    show wit _ _ _ = wit _ _ _
    rw [sO_ext (fun i hi => h i (Nat.lt_succ_of_lt hi)), h n (Nat.lt_succ_self n)]
theorem sO_self {x n : Nat} (h : x < 2 ^ n) : sO (fun i => x.testBit i) n = x := bits_eq (sO_lt _ n) h (fun i hi => by rw [sO_bit]; simp [hi])
/-- how many below n -/
def cnt (P : Nat → Bool) : Nat → Nat
  | 0 => 0
  | n + 1 => cnt P n + (P n).toNat
theorem cnt_le (P : Nat → Bool) : ∀ n, cnt P n ≤ n
  | 0 => Nat.le_refl _
  | n + 1 => by have := cnt_le P n; have := Bool.toNat_le (P n); show cnt P n + _ ≤ _; omega
theorem cnt_ext {P Q : Nat → Bool} : ∀ {n : Nat}, (∀ i, i < n → P i = Q i) → cnt P n = cnt Q n
  | 0, _ => rfl
  | n + 1, h => by
    show cnt P n + _ = cnt Q n + _
    rw [cnt_ext (fun i hi => h i (Nat.lt_succ_of_lt hi)), h n (Nat.lt_succ_self n)]
theorem cnt_add (P : Nat → Bool) (a : Nat) : ∀ b, cnt P (a + b) = cnt P a + cnt (fun i => P (a + i)) b
  | 0 => rfl
  | b + 1 => by
    show cnt P (a + b) + (P (a + b)).toNat = cnt P a + (cnt _ b + (P (a + b)).toNat)
    rw [cnt_add P a b]; omega
theorem cnt_0 {P : Nat → Bool} : ∀ {n : Nat}, (∀ i, i < n → P i = false) → cnt P n = 0
  | 0, _ => rfl
  | n + 1, h => by show cnt P n + _ = 0; rw [cnt_0 (fun i hi => h i (Nat.lt_succ_of_lt hi)), h n (Nat.lt_succ_self n)]; rfl
theorem cnt_mono {P Q : Nat → Bool} : ∀ {n : Nat}, (∀ i, i < n → P i = true → Q i = true) → cnt P n ≤ cnt Q n
  | 0, _ => Nat.le_refl _
  | n + 1, h => by
    have h1 := cnt_mono (fun i hi => h i (Nat.lt_succ_of_lt hi))
    have h2 : (P n).toNat ≤ (Q n).toNat := by
      have := h n (Nat.lt_succ_self n)
      cases hp : P n with
      | false => exact Nat.zero_le _
      | true => rw [this hp]; exact Nat.le_refl _
    show cnt P n + _ ≤ cnt Q n + _
    omega
def pop (x n : Nat) : Nat := cnt (fun i => x.testBit i) n
/-! ===== the machine's numbers ===== -/
def bz (z : Bool) : Int32 := if z then 1 else 0
theorem bz_0 {z : Bool} : bz z = 0 ↔ z = false := by cases z <;> decide
theorem bz_1 {z : Bool} : bz z = 1 ↔ z = true := by cases z <;> decide
theorem bz_01 (z : Bool) : bz z = 0 ∨ bz z = 1 := by cases z <;> decide
theorem bz_inj {a b : Bool} : bz a = bz b ↔ a = b := by cases a <;> cases b <;> decide
theorem bz_nar (z : Bool) : vp_nar .boolean (bz z) = bz z := by cases z <;> rfl
theorem zb_bz (x : Int32) : zb x = bz (!decide (x = 0)) := by
  unfold zb bz
  by_cases h : x = 0 <;> simp [h]
theorem nI_and (a b : Nat) : nI a &&& nI b = nI (a &&& b) := Int32.toBitVec_inj.mp (by
  show BitVec.ofNat 32 a &&& BitVec.ofNat 32 b = BitVec.ofNat 32 (a &&& b)
  rw [BitVec.ofNat_and])
theorem nI_or (a b : Nat) : nI a ||| nI b = nI (a ||| b) := Int32.toBitVec_inj.mp (by
  show BitVec.ofNat 32 a ||| BitVec.ofNat 32 b = BitVec.ofNat 32 (a ||| b)
  rw [BitVec.ofNat_or])
theorem nI_xor (a b : Nat) : nI a ^^^ nI b = nI (a ^^^ b) := Int32.toBitVec_inj.mp (by
  show BitVec.ofNat 32 a ^^^ BitVec.ofNat 32 b = BitVec.ofNat 32 (a ^^^ b)
  rw [BitVec.ofNat_xor])
theorem nI_nd {a : Nat} (b : Nat) (ha : a < 2 ^ 31) : nI a &&& (nI b ^^^ (-1)) = nI (nd a b) := by
  rw [show (-1 : Int32) = nI (2 ^ 32 - 1) by decide, nI_xor, nI_and]
  congr 1
  apply Nat.eq_of_testBit_eq
  intro i
  rw [nd_bit, Nat.testBit_and, Nat.testBit_xor, Nat.testBit_two_pow_sub_one]
  by_cases hi : i < 32
  · simp [hi]
  · rw [bit_hi ha (by omega)]; simp
theorem sh_1 : ∀ p, p < 31 → (1 : Int32) <<< (nI p &&& 31) = nI (2 ^ p) := by decide
theorem nI_zero {n : Nat} (h : n < 2 ^ 31) : nI n = 0 ↔ n = 0 := by
  rw [← nI_0]; exact nI_eq h (by decide)
theorem and_pow (n p : Nat) : n &&& 2 ^ p = 0 ↔ n.testBit p = false := by
  constructor
  · intro h
    have h1 : (n &&& 2 ^ p).testBit p = false := by rw [h]; exact Nat.zero_testBit p
    rw [Nat.testBit_and, Nat.testBit_two_pow] at h1
    simpa using h1
  · intro h
    apply Nat.eq_of_testBit_eq
    intro i
    rw [Nat.testBit_and, Nat.testBit_two_pow, Nat.zero_testBit]
    by_cases hi : p = i
    · subst hi; simp [h]
    · simp [hi]
theorem xE_has {n p : Nat} (hn : n < 2 ^ 31) (hp : p < 31) : fE_has (nI n) (nI p) = some (bz (n.testBit p)) := by
  unfold fE_has
  rw [sh_1 p hp, nI_and]
  have h : nI (n &&& 2 ^ p) = 0 ↔ n.testBit p = false := by
    rw [nI_zero (Nat.lt_of_le_of_lt Nat.and_le_left hn)]; exact and_pow n p
  cases hb : n.testBit p with
  | false => rw [if_pos (h.mpr hb)]; unfold fE_has_13; rw [xgd_pos (Or.inl rfl)]; rfl
  | true => rw [if_neg (fun e => by rw [h.mp e] at hb; cases hb)]; unfold fE_has_13; rw [xgd_pos (Or.inr rfl)]; rfl
theorem smod_p : ∀ p, p < 31 → ((nI p &&& 31).toBitVec.smod 32).toNat = p := by decide
theorem xM_has {n p : Nat} (hn : n < 2 ^ 31) (hp : p < 31) : fM_has (nI n) (nI p) = some (bz (n.testBit p)) := by
  unfold fM_has
  rw [pk_shrN hn _ p (smod_p p hp), pk_andN (m := 1) (Nat.lt_of_le_of_lt (Nat.div_le_self _ _) (Nat.lt_trans hn (by decide))) 1 (by decide)]
  rw [Nat.testBit_eq_decide_div_mod_eq]
  have h2 : n / 2 ^ p % 2 ^ 1 = 0 ∨ n / 2 ^ p % 2 ^ 1 = 1 := by omega
  rcases h2 with h | h
  · rw [h, if_neg (by decide)]
    unfold fM_has_14; rw [xgd_pos (Or.inl rfl)]
    rfl
  · rw [h, if_pos (by decide)]
    unfold fM_has_14; rw [xgd_pos (Or.inr rfl)]
    rfl
theorem xE_with {n p : Nat} {z : Bool} (hn : n < 2 ^ 31) (hp : p < 31) : fE_with (nI n) (nI p) (bz z) = some (nI (wit n p z)) := by
  unfold fE_with
  rw [sh_1 p hp]
  cases z
  · rw [if_pos (by decide)]; unfold fE_with_19
    rw [nI_nd _ hn]; rfl
  · rw [if_neg (by decide)]; unfold fE_with_19
    rw [nI_or]; rfl
def bcI (a0 : Int32) : Int32 :=
  let x1 := (a0 - ((a0.toUInt32 >>> ((1 : Int32).toUInt32 &&& Int32.toUInt32 31)).toInt32 &&& 1431655765))
  let x2 := ((x1 &&& 858993459) + ((x1.toUInt32 >>> ((2 : Int32).toUInt32 &&& Int32.toUInt32 31)).toInt32 &&& 858993459))
  let x3 := ((x2 + (x2.toUInt32 >>> ((4 : Int32).toUInt32 &&& Int32.toUInt32 31)).toInt32) &&& 252645135)
  let x4 := (x3 + (x3.toUInt32 >>> ((8 : Int32).toUInt32 &&& Int32.toUInt32 31)).toInt32)
  let x5 := (x4 + (x4.toUInt32 >>> ((16 : Int32).toUInt32 &&& Int32.toUInt32 31)).toInt32)
  x5 &&& 63
set_option maxRecDepth 100000 in
theorem bc_all : ∀ n, n < 1024 → bcI (nI n) = nI (pop n 10) := by decide +kernel
theorem xJ_bit {n : Nat} (hn : n < 1024) : fJI_bitCount (nI n) = some (nI (pop n 10)) := by
  rw [← bc_all n hn]; rfl
theorem pop_ge {x n m : Nat} (hx : x < 2 ^ n) (hm : n ≤ m) : pop x m = pop x n := by
  obtain ⟨d, rfl⟩ := Nat.exists_eq_add_of_le hm
  unfold pop
  rw [cnt_add, cnt_0 (fun i _ => bit_hi hx (Nat.le_add_right _ _))]
  rfl
theorem vi_n {j n : Nat} (h : j < n) (hn : n < 2 ^ 31) : vp_in (nI j) n := nI_in h hn
theorem nI_ltc {a : Nat} {n : Nat} (h : a < n) (hn : n < 2 ^ 31) : ¬ nI n ≤ nI a := nI_ge h hn
