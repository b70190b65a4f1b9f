/-! ===== parts of a set, one after the other ===== -/
theorem land2 (a b : Nat) : (a &&& b) / 2 = a / 2 &&& b / 2 := by
  apply Nat.eq_of_testBit_eq
  intro i
  rw [← Nat.testBit_add_one, Nat.testBit_and, Nat.testBit_and, Nat.testBit_add_one, Nat.testBit_add_one]
theorem land0 (a b : Nat) : (a &&& b) % 2 = 1 ↔ a % 2 = 1 ∧ b % 2 = 1 := by
  have h := Nat.testBit_and a b 0
  rw [Nat.testBit_zero, Nat.testBit_zero, Nat.testBit_zero] at h
  constructor
  · intro e
    rw [decide_eq_true e] at h
    have := h.symm
    rw [Bool.and_eq_true, decide_eq_true_eq, decide_eq_true_eq] at this
    exact this
  · intro e
    rw [decide_eq_true e.1, decide_eq_true e.2] at h
    exact of_decide_eq_true h
theorem pred_ok (x : Nat) : ∀ c y : Nat, x &&& c = x → y &&& c = y → y < x → y ≤ (x - 1) &&& c := by
  induction x using Nat.strongRecOn with
  | _ x ih =>
    intro c y hx hy hlt
    have hx2 : x / 2 &&& c / 2 = x / 2 := by rw [← land2, hx]
    have hy2 : y / 2 &&& c / 2 = y / 2 := by rw [← land2, hy]
    have hd := land2 (x - 1) c
    have hm := land0 (x - 1) c
    by_cases h1 : x % 2 = 1
    · rw [show (x - 1) / 2 = x / 2 by omega, hx2] at hd
      omega
    · have hlt2 : y / 2 < x / 2 := by omega
      have h3 := ih (x / 2) (by omega) (c / 2) (y / 2) hx2 hy2 hlt2
      rw [show (x - 1) / 2 = x / 2 - 1 by omega] at hd
      have hy0 := land0 y c
      rw [hy] at hy0
      by_cases h4 : y % 2 = 1
      · have := (hy0.mp h4).2
        have := hm.mpr ⟨by omega, this⟩
        omega
      · omega
def rk (c x : Nat) : Nat := cnt (fun y => decide (y &&& c = y)) x
theorem prd_sub (x c : Nat) : ((x - 1) &&& c) &&& c = (x - 1) &&& c := by
  rw [Nat.and_assoc, Nat.and_self]
theorem prd_lt {x c : Nat} (h : 0 < x) : (x - 1) &&& c < x := Nat.lt_of_le_of_lt Nat.and_le_left (by omega)
theorem rk_step {x c : Nat} (hx : x &&& c = x) (h0 : 0 < x) : rk c x = rk c ((x - 1) &&& c) + 1 := by
  have hl := prd_lt (c := c) h0
  have hp := prd_sub x c
  have key := pred_ok x c
  generalize (x - 1) &&& c = z at *
  obtain ⟨d, hd⟩ : ∃ d, x = z + (1 + d) := ⟨x - z - 1, by omega⟩
  unfold rk
  rw [hd, cnt_add, cnt_add]
  have h1 : cnt (fun i => (fun y => decide (y &&& c = y)) (z + i)) 1 = 1 := by
    show 0 + (decide (z + 0 &&& c = z + 0)).toNat = 1
    rw [Nat.add_zero, decide_eq_true hp]; rfl
  have h2 : cnt (fun i => (fun i => (fun y => decide (y &&& c = y)) (z + i)) (1 + i)) d = 0 := cnt_0 (fun i hi => by
    dsimp only
    rw [decide_eq_false_iff_not]
    intro e
    have := key (z + (1 + i)) hx e (by omega)
    omega)
  rw [h1, h2]
theorem rk_zero {x c : Nat} (hx : x &&& c = x) (h : rk c x = 0) : x = 0 := by
  refine Classical.byContradiction (fun h0 => ?_)
  have := rk_step hx (by omega)
  omega
set_option maxRecDepth 100000 in
theorem rk_all : ∀ c, c < 512 → cnt (fun y => decide (y &&& c = y)) c + 1 = 2 ^ pop c 10 := by decide +kernel
theorem rk_top {c : Nat} (h : c < 512) : rk c c = 2 ^ pop c 10 - 1 := by
  have := rk_all c h
  unfold rk
  omega
/-! ===== digits ===== -/
theorem dig9_or {a b : Nat} (h : a &&& b = 0) : ∀ n, dig9 (a ||| b) n = dig9 a n + dig9 b n
  | 0 => rfl
  | n + 1 => by
    show dig9 (a ||| b) n + _ = dig9 a n + _ + (dig9 b n + _)
    have hb := and_z.mp h n
    rw [dig9_or h n, Nat.testBit_or]
    have : (a.testBit n || b.testBit n).toNat = (a.testBit n).toNat + (b.testBit n).toNat := by
      cases ha : a.testBit n <;> cases hb' : b.testBit n <;> simp [ha, hb'] at hb ⊢
    rw [this, Nat.add_mul]; omega
theorem dig_0 : dig 0 = 0 := by decide
theorem dig9_le (a : Nat) : ∀ n, dig9 a n ≤ dig9 511 n ∨ 9 < n
  | 0 => Or.inl (Nat.le_refl _)
  | n + 1 => by
    by_cases h : 9 < n + 1
    · exact Or.inr h
    · rcases dig9_le a n with h1 | h1
      · refine Or.inl ?_
        show dig9 a n + _ ≤ dig9 511 n + _
        have h2 : (511 : Nat).testBit n = true := by
          have : ∀ n, n < 9 → (511 : Nat).testBit n = true := by decide
          exact this n (by omega)
        rw [h2]
        have h3 : (a.testBit n).toNat * 6 ^ (8 - n) ≤ (true : Bool).toNat * 6 ^ (8 - n) := Nat.mul_le_mul_right _ (Bool.toNat_le _)
        omega
      · omega
theorem dig_le (a : Nat) : dig a ≤ 2015539 := by
  rcases dig9_le a 9 with h | h
  · exact Nat.le_trans h (by decide)
  · omega
def hv (d : Nat → Nat) : Nat → Nat
  | 0 => 0
  | n + 1 => 6 * hv d n + d n
theorem dig9_hv (a : Nat) : ∀ n, n ≤ 9 → dig9 a n = hv (fun p => (a.testBit p).toNat) n * 6 ^ (9 - n)
  | 0, _ => by simp [dig9, hv]
  | n + 1, h => by
    show dig9 a n + (a.testBit n).toNat * 6 ^ (8 - n) = (6 * hv (fun p => (a.testBit p).toNat) n + (a.testBit n).toNat) * 6 ^ (9 - (n + 1))
    rw [dig9_hv a n (by omega), show 9 - n = (8 - n) + 1 by omega, Nat.pow_succ, show 9 - (n + 1) = 8 - n by omega, Nat.add_mul]
    congr 1
    rw [Nat.mul_comm (6 ^ (8 - n)) 6, ← Nat.mul_assoc, Nat.mul_comm (hv _ n) 6]
theorem dig_hv (a : Nat) : dig a = hv (fun p => (a.testBit p).toNat) 9 := by
  show dig9 a 9 = _
  rw [dig9_hv a 9 (Nat.le_refl _)]; simp
theorem hv_add (a b : Nat → Nat) : ∀ n, hv (fun p => a p + b p) n = hv a n + hv b n
  | 0 => rfl
  | n + 1 => by
    show 6 * hv (fun p => a p + b p) n + (a n + b n) = 6 * hv a n + a n + (6 * hv b n + b n)
    rw [hv_add a b n]; omega
theorem hv_mul (k : Nat) (a : Nat → Nat) : ∀ n, hv (fun p => k * a p) n = k * hv a n
  | 0 => rfl
  | n + 1 => by
    show 6 * hv (fun p => k * a p) n + k * a n = k * (6 * hv a n + a n)
    rw [hv_mul k a n, Nat.mul_add, ← Nat.mul_assoc, ← Nat.mul_assoc, Nat.mul_comm 6 k]
theorem hv_ext {a b : Nat → Nat} : ∀ {n : Nat}, (∀ p, p < n → a p = b p) → hv a n = hv b n
  | 0, _ => rfl
  | n + 1, h => by
    show 6 * hv a n + a n = 6 * hv b n + b n
    rw [hv_ext (fun p hp => h p (Nat.lt_succ_of_lt hp)), h n (Nat.lt_succ_self n)]
theorem hv_lex {a b : Nat → Nat} {p : Nat} (h1 : ∀ q, q < p → a q = b q) (h2 : a p < b p) (ha : ∀ q, a q < 6) : ∀ n, p < n → hv a n < hv b n
  | 0, h => absurd h (Nat.not_lt_zero p)
  | n + 1, h => by
    show 6 * hv a n + a n < 6 * hv b n + b n
    by_cases e : n = p
    · subst e; rw [hv_ext h1]; omega
    · have := hv_lex h1 h2 ha n (by omega)
      have := ha n
      omega
/-! ===== sessions one after the other ===== -/
def unA (A : Nat → Nat) : Nat → Nat
  | 0 => 0
  | s + 1 => unA A s ||| A s
def usA (A : Nat → Nat) (n : Nat) : Nat := cnt (fun s => decide (A s ≠ 0)) n
def coA (A : Nat → Nat) (n : Nat) : Nat := sm (fun s => s * dig (A s)) n
def csA (A : Nat → Nat) (n : Nat) : Nat := 10077696 * usA A n + coA A n
def dgA (A : Nat → Nat) (n p : Nat) : Nat := sm (fun s => s * ((A s).testBit p).toNat) n
theorem coA_hv (A : Nat → Nat) : ∀ n, coA A n = hv (dgA A n) 9
  | 0 => by
    show 0 = hv (fun p => 0) 9
    decide
  | n + 1 => by
    show coA A n + n * dig (A n) = hv (fun p => dgA A n p + n * ((A n).testBit p).toNat) 9
    rw [hv_add (dgA A n) (fun p => n * ((A n).testBit p).toNat), hv_mul, coA_hv A n, dig_hv]
theorem unA_ext {A A' : Nat → Nat} : ∀ {n : Nat}, (∀ s, s < n → A s = A' s) → unA A n = unA A' n
  | 0, _ => rfl
  | n + 1, h => by
    show unA A n ||| A n = unA A' n ||| A' n
    rw [unA_ext (fun s hs => h s (Nat.lt_succ_of_lt hs)), h n (Nat.lt_succ_self n)]
theorem usA_ext {A A' : Nat → Nat} {n : Nat} (h : ∀ s, s < n → A s = A' s) : usA A n = usA A' n := cnt_ext (fun s hs => by rw [h s hs])
theorem coA_ext {A A' : Nat → Nat} {n : Nat} (h : ∀ s, s < n → A s = A' s) : coA A n = coA A' n := sm_ext (fun s hs => by rw [h s hs])
theorem csA_ext {A A' : Nat → Nat} {n : Nat} (h : ∀ s, s < n → A s = A' s) : csA A n = csA A' n := by unfold csA; rw [usA_ext h, coA_ext h]
theorem csA_s0 {A : Nat → Nat} {n : Nat} (h : A n = 0) : csA A (n + 1) = csA A n := by
  show 10077696 * (usA A n + (decide (A n ≠ 0)).toNat) + (coA A n + n * dig (A n)) = _
  rw [h, dig_0]; simp [csA]
theorem csA_s1 {A : Nat → Nat} {n : Nat} (h : A n ≠ 0) : csA A (n + 1) = csA A n + 10077696 + n * dig (A n) := by
  show 10077696 * (usA A n + (decide (A n ≠ 0)).toNat) + (coA A n + n * dig (A n)) = _
  rw [decide_eq_true h]; unfold csA; show 10077696 * (_ + 1) + _ = _; omega
theorem unA_bit (A : Nat → Nat) (p : Nat) : ∀ n, (unA A n).testBit p = anyB (fun s => (A s).testBit p) n
  | 0 => Nat.zero_testBit p
  | n + 1 => by
    show (unA A n ||| A n).testBit p = (anyB _ n || _)
    rw [Nat.testBit_or, unA_bit A p n]
def OkA (V : Nat → Nat → Nat → Prop) (A : Nat → Nat) (n : Nat) : Prop := ∀ s, s < n → V s (unA A s) (A s)
theorem OkA_ext {V : Nat → Nat → Nat → Prop} {A A' : Nat → Nat} {n : Nat} (h : ∀ s, s < n → A s = A' s) (hA : OkA V A n) : OkA V A' n := fun s hs => by
  have := hA s hs
  rw [unA_ext (fun t ht => h t (Nat.lt_trans ht hs)), h s hs] at this
  exact this
/-- the least cost of having just x, as far as it matters -/
def DPok (V : Nat → Nat → Nat → Prop) (Hd n : Nat) (B : Nat → Nat) : Prop := (∀ x, x < 512 → B x ≤ 2 ^ 30 ∧ (B x < 2 ^ 30 → ∃ A, OkA V A n ∧ unA A n = x ∧ csA A n = B x)) ∧ (∀ A, OkA V A n → B (unA A n) ≤ csA A n ∨ B Hd ≤ csA A n)
theorem unA_lt {V : Nat → Nat → Nat → Prop} (hV : ∀ s P A, V s P A → A < 512) {A : Nat → Nat} : ∀ {n : Nat}, OkA V A n → unA A n < 512
  | 0, _ => by show (0 : Nat) < 512; decide
  | n + 1, h => Nat.or_lt_two_pow (n := 9) (unA_lt hV (fun s hs => h s (Nat.lt_succ_of_lt hs))) (hV _ _ _ (h n (Nat.lt_succ_self n)))
theorem unA_sub {V : Nat → Nat → Nat → Prop} {Hd : Nat} (hV : ∀ s P A, V s P A → A &&& Hd = A) {A : Nat → Nat} : ∀ {n : Nat}, OkA V A n → unA A n &&& Hd = unA A n
  | 0, _ => Nat.zero_and _
  | n + 1, h => by
    show (unA A n ||| A n) &&& Hd = unA A n ||| A n
    rw [Nat.and_or_distrib_right, unA_sub hV (fun s hs => h s (Nat.lt_succ_of_lt hs)), hV _ _ _ (h n (Nat.lt_succ_self n))]
theorem coA_le {V : Nat → Nat → Nat → Prop} (hV : ∀ s P A, V s P A → P &&& A = 0) {A : Nat → Nat} : ∀ {n : Nat}, n ≤ 6 → OkA V A n → coA A n ≤ 5 * dig (unA A n)
  | 0, _, _ => Nat.zero_le _
  | n + 1, hn, h => by
    have h1 := coA_le hV (n := n) (by omega) (fun s hs => h s (Nat.lt_succ_of_lt hs))
    have h2 := dig9_or (hV _ _ _ (h n (Nat.lt_succ_self n))) 9
    show coA A n + n * dig (A n) ≤ 5 * dig (unA A n ||| A n)
    have h3 : n * dig (A n) ≤ 5 * dig (A n) := Nat.mul_le_mul_right _ (by omega)
    rw [show dig (unA A n ||| A n) = dig (unA A n) + dig (A n) from h2]
    omega
theorem csA_lt {V : Nat → Nat → Nat → Prop} (hV : ∀ s P A, V s P A → P &&& A = 0) {A : Nat → Nat} (h : OkA V A 6) : csA A 6 < 2 ^ 30 ∧ coA A 6 < 10077696 := by
  have h1 := coA_le hV (Nat.le_refl 6) h
  have h2 := dig_le (unA A 6)
  have h3 : usA A 6 ≤ 6 := cnt_le _ 6
  unfold csA
  constructor
  · have : (2 : Nat) ^ 30 = 1073741824 := by decide
    omega
  · omega
/-- one session more: what holds while the class goes through all sets P from the held set down; at v, all above it is done -/
def DPin (V : Nat → Nat → Nat → Prop) (Hd n : Nat) (B : Nat → Nat) (v : Nat) (C : Nat → Nat) : Prop := (∀ x, x < 512 → C x ≤ B x) ∧ (∀ x, x < 512 → x < v → C x = B x) ∧ (∀ x, x < 512 → C x ≤ 2 ^ 30 ∧ (C x < 2 ^ 30 → ∃ A, OkA V A (n + 1) ∧ unA A (n + 1) = x ∧ csA A (n + 1) = C x)) ∧ (∀ A, OkA V A (n + 1) → v ≤ unA A n → C (unA A (n + 1)) ≤ csA A (n + 1) ∨ C Hd ≤ csA A (n + 1))
section DP1
variable {V : Nat → Nat → Nat → Prop} {Hd n : Nat} {ch : Nat → Nat} {mt : Nat → Prop} {B : Nat → Nat}
theorem grows {P A : Nat} (hch : ch P &&& P = 0) (h0 : A ≠ 0) (hA : A &&& ch P = A) : P < P ||| A := by
  have hne : P ||| A ≠ P := fun e => h0 (by
    apply Nat.eq_of_testBit_eq
    intro i
    rw [Nat.zero_testBit, Bool.eq_false_iff]
    intro hi
    have h1 : (P ||| A).testBit i = true := by rw [Nat.testBit_or, hi, Bool.or_true]
    rw [e] at h1
    have h2 : (ch P).testBit i = true := by
      have : (A &&& ch P).testBit i = true := by rw [hA]; exact hi
      rw [Nat.testBit_and, Bool.and_eq_true] at this
      exact this.2
    have h3 := and_z.mp hch i
    rw [h1, h2] at h3; cases h3)
  exact Nat.lt_of_le_of_ne Nat.left_le_or (Ne.symm hne)
theorem DPin_start (hV0 : ∀ P, V n P 0) (hsub : ∀ A, OkA V A n → unA A n ≤ Hd) (h : DPok V Hd n B) : DPin V Hd n B (Hd + 1) B := by
  refine ⟨fun _ _ => Nat.le_refl _, fun _ _ _ => rfl, fun x hx => ⟨(h.1 x hx).1, fun hlt => ?_⟩, fun A hA hge => ?_⟩
  · obtain ⟨A, a1, a2, a3⟩ := (h.1 x hx).2 hlt
    have hz : ∀ s, s < n → A s = un A n 0 s := fun s hs => (un_n (by omega)).symm
    refine ⟨un A n 0, fun s hs => ?_, ?_, ?_⟩
    · by_cases e : s = n
      · subst e; rw [un_s]; exact hV0 _
      · exact OkA_ext hz a1 s (by omega)
    · show unA (un A n 0) n ||| un A n 0 n = x
      rw [un_s, Nat.or_zero, ← unA_ext hz, a2]
    · rw [csA_s0 (un_s _ _ _), ← csA_ext hz, a3]
  · have := hsub A (fun s hs => hA s (by omega))
    omega
theorem DPin_skip (hHd : Hd < 512) (h : DPok V Hd n B) {v : Nat} (hv : v ≤ Hd) {C : Nat → Nat} (hC : DPin V Hd n B (v + 1) C) (hp : C Hd ≤ C v + 10077696) : DPin V Hd n B v C := by
  obtain ⟨i1, i2, i3, i4⟩ := hC
  have hCv : C v = B v := i2 v (by omega) (by omega)
  refine ⟨i1, fun x hx hxv => i2 x hx (by omega), i3, fun A hA hge => ?_⟩
  by_cases e1 : unA A n = v
  · have hAn : OkA V A n := fun s hs => hA s (by omega)
    have hB := i1 Hd hHd
    by_cases h0 : A n = 0
    · rw [csA_s0 h0]
      rw [show unA A (n + 1) = v by show unA A n ||| A n = v; rw [h0, Nat.or_zero, e1]]
      rcases h.2 A hAn with h9 | h9
      · rw [e1] at h9; exact Or.inl (by rw [hCv]; exact h9)
      · exact Or.inr (Nat.le_trans hB h9)
    · rw [csA_s1 h0]
      rcases h.2 A hAn with h9 | h9
      · rw [e1, ← hCv] at h9; exact Or.inr (by omega)
      · exact Or.inr (by omega)
  · exact i4 A hA (by omega)
theorem DPin_do (hHd : Hd < 512) (hch : ∀ P, ch P &&& P = 0) (hV : ∀ P A, V n P A ↔ A = 0 ∨ (A &&& ch P = A ∧ mt A)) (hVlt : ∀ s P A, V s P A → A < 512) (h : DPok V Hd n B) {v : Nat} (hv : v ≤ Hd) {C C' : Nat → Nat} (hC : DPin V Hd n B (v + 1) C) (hp : ¬ C Hd ≤ C v + 10077696)
    (d1 : ∀ x, x < 512 → C' x ≤ C x) (d2 : ∀ x, x < 512 → C' x ≠ C x → ∃ A, A ≠ 0 ∧ A &&& ch v = A ∧ mt A ∧ v ||| A = x ∧ C' x = C v + 10077696 + n * dig A) (d3 : ∀ A, A ≠ 0 → A &&& ch v = A → mt A → v ||| A < 512 → C' (v ||| A) ≤ C v + 10077696 + n * dig A) : DPin V Hd n B v C' := by
  obtain ⟨i1, i2, i3, i4⟩ := hC
  have hCv : C v = B v := i2 v (by omega) (by omega)
  have hv512 : v < 512 := by omega
  refine ⟨fun x hx => Nat.le_trans (d1 x hx) (i1 x hx), fun x hx hxv => ?_, fun x hx => ?_, fun A hA hge => ?_⟩
  · refine Classical.byContradiction (fun hne => ?_)
    obtain ⟨A, a1, a2, a3, a4, a5⟩ := d2 x hx (fun e => hne (e.trans (i2 x hx (by omega))))
    have := grows (hch v) a1 a2
    omega
  · by_cases e : C' x = C x
    · rw [e]; exact i3 x hx
    · obtain ⟨A, a1, a2, a3, a4, a5⟩ := d2 x hx e
      refine ⟨Nat.le_trans (d1 x hx) (i3 x hx).1, fun _ => ?_⟩
      have hBv : B v < 2 ^ 30 := by
        have := (i3 Hd hHd).1
        rw [← hCv]; omega
      obtain ⟨A0, b1, b2, b3⟩ := (h.1 v hv512).2 hBv
      have hz : ∀ s, s < n → A0 s = un A0 n A s := fun s hs => (un_n (by omega)).symm
      refine ⟨un A0 n A, fun s hs => ?_, ?_, ?_⟩
      · by_cases e : s = n
        · subst e
          rw [un_s, ← unA_ext hz, b2]; exact (hV _ _).mpr (Or.inr ⟨a2, a3⟩)
        · exact OkA_ext hz b1 s (by omega)
      · show unA (un A0 n A) n ||| un A0 n A n = x
        rw [un_s, ← unA_ext hz, b2, a4]
      · rw [csA_s1 (by rw [un_s]; exact a1), ← csA_ext hz, b3, un_s, a5, hCv]
  · have hAn : OkA V A n := fun s hs => hA s (by omega)
    have hn1 := unA_lt hVlt hA
    have hB := i1 Hd hHd
    have hD := d1 Hd hHd
    by_cases e1 : unA A n = v
    · have hVn := (hV _ _).mp (hA n (by omega))
      rw [e1] at hVn
      by_cases h0 : A n = 0
      · rw [csA_s0 h0]
        rw [show unA A (n + 1) = v by show unA A n ||| A n = v; rw [h0, Nat.or_zero, e1]]
        rcases h.2 A hAn with h9 | h9
        · rw [e1] at h9; exact Or.inl (by have := d1 v hv512; rw [hCv] at this; omega)
        · exact Or.inr (by omega)
      · rw [csA_s1 h0]
        rcases hVn with h9 | ⟨h9, h10⟩
        · exact absurd h9 h0
        · have e2 : unA A (n + 1) = v ||| A n := by show unA A n ||| A n = _; rw [e1]
          rw [e2] at hn1 ⊢
          have h11 := d3 (A n) h0 h9 h10 hn1
          rcases h.2 A hAn with h12 | h12
          · rw [e1, ← hCv] at h12
            exact Or.inl (by omega)
          · exact Or.inr (by omega)
    · rcases i4 A hA (by omega) with h9 | h9
      · exact Or.inl (Nat.le_trans (d1 _ hn1) h9)
      · exact Or.inr (by omega)
theorem DPin_end {C : Nat → Nat} (hC : DPin V Hd n B 0 C) : DPok V Hd (n + 1) C := ⟨hC.2.2.1, fun A hA => hC.2.2.2 A hA (Nat.zero_le _)⟩
end DP1
