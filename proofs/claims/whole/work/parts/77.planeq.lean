/-! ===== what class and reference allow in a session is the same ===== -/
theorem cnt_any {P : Nat → Bool} : ∀ {n : Nat}, cnt P n = 0 ↔ anyB P n = false
  | 0 => ⟨fun _ => rfl, fun _ => rfl⟩
  | n + 1 => by
    show cnt P n + (P n).toNat = 0 ↔ (anyB P n || P n) = false
    rw [Bool.or_eq_false_iff, ← cnt_any]
    cases P n with
    | false => exact ⟨fun h => ⟨h, rfl⟩, fun h => h.1⟩
    | true => exact ⟨fun h => by have : (true : Bool).toNat = 1 := rfl; omega, fun h => by cases h.2⟩
theorem clP_any (y4 : Nat → Int32) (p q : Nat) : clP y4 p q = anyB (bothP y4 p q) 40 := by
  unfold clP
  cases h : anyB (bothP y4 p q) 40 with
  | false => rw [decide_eq_true (cnt_any.mpr h)]; rfl
  | true => rw [decide_eq_false (fun e => by rw [cnt_any.mp e] at h; cases h)]; rfl
/-- what a session's papers must keep, in words of one paper -/
def VP (Y : Mem) (s P A : Nat) : Prop := A < 512 ∧ ∀ p, p < 9 → A.testBit p = true → fitP (Y 1) (Y 2) (Y 3) s p = true ∧ P.testBit p = false ∧ (∀ q, q < 9 → bq (Y 6 (162 + 9 * q + p)) = true → heldP (Y 1) q = true → P.testBit q = true) ∧ (∀ q, q < 9 → A.testBit q = true → q ≠ p → bq (Y 6 (81 + 9 * q + p)) = false ∧ anyB (bothP (Y 4) p q) 40 = false) ∧ (∀ q, q < 9 → bq (Y 6 (9 * q + p)) = true → heldP (Y 1) q = true → A.testBit q = true)
theorem heldS_bit (y1 : Nat → Int32) {p : Nat} (hp : p < 9) : (heldS y1).testBit p = heldP y1 p := by unfold heldS; rw [sO_bit, decide_eq_true hp, Bool.true_and]
theorem bit9 {A p : Nat} (hA : A < 512) (h : A.testBit p = true) : p < 9 := by
  refine Classical.byContradiction (fun hn => ?_)
  rw [bit_hi (k := 9) hA (by omega)] at h; cases h
theorem foe_bit (y4 y6 : Nat → Int32) (p : Nat) {a : Nat} (ha : a < 9) : (foeS y4 y6 p).testBit a = (!decide (a = p) && (bq (y6 (81 + 9 * a + p)) || anyB (bothP y4 p a) 40)) := by
  unfold foeS
  rw [wit_bit, sO_bit, decide_eq_true ha, Bool.true_and]
  by_cases e : a = p
  · rw [if_pos e, decide_eq_true e]; rfl
  · rw [if_neg e, decide_eq_false e]; rfl
theorem mat_bit (y1 y6 : Nat → Int32) (p : Nat) {a : Nat} (ha : a < 9) : (matS y1 y6 p).testBit a = (bq (y6 (9 * a + p)) && heldP y1 a) := by
  unfold matS
  rw [Nat.testBit_and, rY_bit _ _ _ ha, heldS_bit _ ha, show 81 * 0 + 9 * a + p = 9 * a + p by omega]
theorem bef_bit (y1 y6 : Nat → Int32) (p : Nat) {a : Nat} (ha : a < 9) : (befS y1 y6 p).testBit a = (bq (y6 (162 + 9 * a + p)) && heldP y1 a) := by
  unfold befS
  rw [Nat.testBit_and, rY_bit _ _ _ ha, heldS_bit _ ha]
theorem orT_bit (f : Nat → Nat) (x : Nat) {i : Nat} (hi : i < 9) : (orT f x).testBit i = anyB (fun p => x.testBit p && (f p).testBit i) 9 := by
  unfold orT; rw [sO_bit, decide_eq_true hi, Bool.true_and]
theorem nd_z {a b : Nat} : nd a b = 0 ↔ ∀ i, a.testBit i = true → b.testBit i = true := by
  constructor
  · intro h i hi
    have : (nd a b).testBit i = false := by rw [h]; exact Nat.zero_testBit i
    rw [nd_bit, hi] at this
    simpa using this
  · intro h
    apply Nat.eq_of_testBit_eq
    intro i
    rw [nd_bit, Nat.zero_testBit]
    cases ha : a.testBit i with
    | false => rfl
    | true => rw [h i ha]; rfl
theorem VX_VP {Y : Mem} {s P A : Nat} : VX Y s P A ↔ VP Y s P A := by
  constructor
  · intro hV
    have hA := VX_lt hV
    refine ⟨hA, fun p hp hpA => ?_⟩
    rcases hV with rfl | ⟨h1, h2⟩
    · rw [Nat.zero_testBit] at hpA; cases hpA
    · have hc := sub_bit h1 hpA
      rw [chS_bit, Bool.and_eq_true, Bool.and_eq_true, Bool.and_eq_true, Bool.and_eq_true] at hc
      obtain ⟨⟨⟨-, c1⟩, c2⟩, -, c3⟩ := hc
      rw [Bool.not_eq_true'] at c2
      rw [decide_eq_true_eq] at c3
      unfold mtB at h2
      rw [Bool.and_eq_true, decide_eq_true_eq, decide_eq_true_eq] at h2
      refine ⟨c1, c2, fun q hq hb hh => nd_z.mp c3 q (by rw [bef_bit _ _ _ hq, hb, hh]; rfl), fun q hq hqA hne => ?_, fun q hq hb hh => ?_⟩
      · have := and_z.mp h2.1 q
        rw [hqA, Bool.and_true, orT_bit _ _ hq, Bool.eq_false_iff] at this
        have h3 : (foeS (Y 4) (Y 6) p).testBit q = false := by
          rw [Bool.eq_false_iff]; intro e
          exact this (anyB_t.mpr ⟨p, hp, by rw [hpA, e]; rfl⟩)
        rw [foe_bit _ _ _ hq, decide_eq_false hne] at h3
        rw [show (!false && (bq (Y 6 (81 + 9 * q + p)) || anyB (bothP (Y 4) p q) 40)) = (bq (Y 6 (81 + 9 * q + p)) || anyB (bothP (Y 4) p q) 40) from rfl, Bool.or_eq_false_iff] at h3
        exact h3
      · refine nd_z.mp h2.2 q ?_
        rw [orT_bit _ _ hq]
        exact anyB_t.mpr ⟨p, hp, by rw [hpA, mat_bit _ _ _ hq, hb, hh]; rfl⟩
  · rintro ⟨hA, h⟩
    by_cases h0 : A = 0
    · exact Or.inl h0
    · refine Or.inr ⟨sub_of (fun p hpA => ?_), ?_⟩
      · have hp := bit9 hA hpA
        obtain ⟨c1, c2, c3, -, -⟩ := h p hp hpA
        rw [chS_bit, decide_eq_true hp, c1, c2]
        rw [decide_eq_true (show nd (befS (Y 1) (Y 6) p) P = 0 from nd_z.mpr (fun q hq => by
          have hq9 := bit9 (befS_lt _ _ _) hq
          rw [bef_bit _ _ _ hq9, Bool.and_eq_true] at hq
          exact c3 q hq9 hq.1 hq.2))]
        rfl
      · unfold mtB
        rw [Bool.and_eq_true, decide_eq_true_eq, decide_eq_true_eq]
        constructor
        · rw [and_z]; intro q
          cases hqA : A.testBit q with
          | false => rw [Bool.and_false]
          | true =>
            have hq := bit9 hA hqA
            rw [Bool.and_true, orT_bit _ _ hq, Bool.eq_false_iff]
            intro e
            obtain ⟨p, hp, hh⟩ := anyB_t.mp e
            rw [Bool.and_eq_true, foe_bit _ _ _ hq, Bool.and_eq_true] at hh
            obtain ⟨hpA, hne, hx⟩ := hh
            have hne' : q ≠ p := by simpa using hne
            obtain ⟨-, -, -, c4, -⟩ := h p hp hpA
            obtain ⟨d1, d2⟩ := c4 q hq hqA hne'
            rw [d1, d2] at hx; cases hx
        · rw [nd_z]; intro q hq
          have hq9 := bit9 (orT_lt _ _) hq
          rw [orT_bit _ _ hq9] at hq
          obtain ⟨p, hp, hh⟩ := anyB_t.mp hq
          rw [Bool.and_eq_true, mat_bit _ _ _ hq9, Bool.and_eq_true] at hh
          exact (h p hp hh.1).2.2.2.2 q hq9 hh.2.1 hh.2.2
def WX (Y : Mem) (s P A : Nat) : Prop := A &&& nd (heldS (Y 1)) P = A ∧ mayB Y s A (heldS (Y 1)) = true ∧ folB (Y 6) A P (heldS (Y 1)) = true
def clo (Y : Mem) (P : Nat) : Prop := ∀ p q, p < 9 → q < 9 → P.testBit p = true → bq (Y 6 (162 + 9 * q + p)) = true → heldP (Y 1) q = true → P.testBit q = true
theorem le_nlt {a b : Int32} : a ≤ b ↔ ¬ b < a := Int32.not_lt.symm
theorem VW {Y : Mem} {X : Mem} (h5 : r5 (X 7) (X 8) (X 9) (Y 6)) {s P A : Nat} (hP : clo Y P) : VX Y s P A ↔ WX Y s P A := by
  have hsym : ∀ k, k < 2 → ∀ a b, a < 9 → b < 9 → Y 6 (81 * k + 9 * a + b) = Y 6 (81 * k + 9 * b + a) := h5.2.2.2.2.1
  have s0 : ∀ a b, a < 9 → b < 9 → Y 6 (9 * a + b) = Y 6 (9 * b + a) := fun a b ha hb => by
    have := hsym 0 (by decide) a b ha hb
    rwa [show 81 * 0 + 9 * a + b = 9 * a + b by omega, show 81 * 0 + 9 * b + a = 9 * b + a by omega] at this
  have s1 : ∀ a b, a < 9 → b < 9 → Y 6 (81 + 9 * a + b) = Y 6 (81 + 9 * b + a) := fun a b ha hb => hsym 1 (by decide) a b ha hb
  rw [VX_VP]
  unfold WX mayB fitsB folB
  constructor
  · rintro ⟨hA, h⟩
    refine ⟨sub_of (fun p hpA => ?_), ?_, ?_⟩
    · have hp := bit9 hA hpA
      obtain ⟨c1, c2, -, -, -⟩ := h p hp hpA
      rw [nd_bit, heldS_bit _ hp, c2]
      unfold fitP at c1
      rw [Bool.and_eq_true] at c1
      rw [c1.1]; rfl
    · rw [Bool.and_eq_true, decide_eq_true_eq]
      constructor
      · refine nd_z.mpr (fun p hpA => ?_)
        have hp := bit9 hA hpA
        have c1 := (h p hp hpA).1
        unfold fitP at c1
        rw [Bool.and_eq_true] at c1
        rw [heldS_bit _ hp, c1.1]
      · rw [allB_t]; intro p hp
        cases hpA : A.testBit p with
        | false => unfold ftP; rw [hpA]; rfl
        | true =>
          obtain ⟨c1, c2, c3, c4, c5⟩ := h p hp hpA
          rw [Bool.and_eq_true]
          constructor
          · unfold ftP
            rw [hpA]
            unfold fitP heldP at c1
            simp only [Bool.and_eq_true, Bool.not_eq_true', decide_eq_false_iff_not, Bool.or_eq_false_iff, Bool.and_eq_false_iff, decide_eq_true_eq, Bool.not_eq_false'] at c1
            obtain ⟨d1, d2, d3⟩ := c1
            have d3' : ¬ Y 2 s < Y 1 p := le_nlt.mp d3
            simp only [Bool.not_true, Bool.false_or, decide_eq_false d1, decide_eq_false d3', Bool.not_false, Bool.true_and, Bool.or_eq_true, decide_eq_true_eq]
            exact d2
          · rw [Bool.not_true, Bool.false_or, allB_t]
            intro q hq
            unfold okQ
            rw [Bool.and_eq_true, Bool.not_eq_true', Bool.not_eq_true', clP_any, heldS_bit _ hq]
            constructor
            · cases hqA : A.testBit q with
              | false => rfl
              | true =>
                by_cases e : p = q
                · rw [decide_eq_true e]; rfl
                · obtain ⟨e1, e2⟩ := c4 q hq hqA (Ne.symm e)
                  rw [decide_eq_false e, s1 p q hp hq, e1, e2]
                  have : bq (Y 6 (162 + 9 * p + q)) = false := by
                    rw [Bool.eq_false_iff]; intro hb
                    have hq3 := (h q hq hqA).2.2.1 p hp hb (by unfold fitP at c1; rw [Bool.and_eq_true] at c1; exact c1.1)
                    rw [c2] at hq3; cases hq3
                  rw [this]; rfl
            · cases hh : heldP (Y 1) q with
              | false => rfl
              | true =>
                cases hqA : A.testBit q with
                | true => rfl
                | false =>
                  rw [Bool.true_and, Bool.not_false, Bool.true_and, Bool.eq_false_iff]
                  intro hb
                  rw [s0 p q hp hq] at hb
                  rw [c5 q hq hb hh] at hqA; cases hqA
    · rw [Bool.and_eq_true, decide_eq_true_eq]
      constructor
      · rw [and_z]; intro p
        cases hpA : A.testBit p with
        | false => rfl
        | true => rw [(h p (bit9 hA hpA) hpA).2.1]; rfl
      · rw [allB_t]; intro p hp
        cases hpA : A.testBit p with
        | false => rfl
        | true =>
          obtain ⟨c1, c2, c3, c4, c5⟩ := h p hp hpA
          rw [Bool.not_true, Bool.false_or, allB_t]
          intro q hq
          unfold fqP
          rw [Bool.and_eq_true, Bool.not_eq_true', Bool.not_eq_true', heldS_bit _ hq]
          constructor
          · cases hb : bq (Y 6 (162 + 9 * q + p)) with
            | false => rfl
            | true =>
              cases hh : heldP (Y 1) q with
              | false => rfl
              | true => rw [c3 q hq hb hh]; rfl
          · cases hb : bq (Y 6 (162 + 9 * p + q)) with
            | false => rfl
            | true =>
              rw [Bool.true_and, Bool.eq_false_iff]
              intro hqP
              have := hP q p hq hp hqP hb (by unfold fitP at c1; rw [Bool.and_eq_true] at c1; exact c1.1)
              rw [c2] at this; cases this
  · rintro ⟨w1, w2, w3⟩
    rw [Bool.and_eq_true, decide_eq_true_eq, allB_t] at w2 w3
    have hA : A < 512 := by
      rw [← w1]; exact Nat.lt_of_le_of_lt Nat.and_le_right (nd_lt (k := 9) (heldS_lt _))
    refine ⟨hA, fun p hp hpA => ?_⟩
    have hb0 := sub_bit w1 hpA
    rw [nd_bit, heldS_bit _ hp, Bool.and_eq_true, Bool.not_eq_true'] at hb0
    have hf := w2.2 p hp
    have hg := w3.2 p hp
    rw [hpA, Bool.not_true, Bool.false_or, Bool.and_eq_true] at hf
    rw [hpA, Bool.not_true, Bool.false_or, allB_t] at hg
    obtain ⟨hf1, hf2⟩ := hf
    rw [allB_t] at hf2
    refine ⟨?_, hb0.2, fun q hq hb hh => ?_, fun q hq hqA hne => ?_, fun q hq hb hh => ?_⟩
    · unfold ftP at hf1
      rw [hpA] at hf1
      simp only [Bool.not_true, Bool.false_or, Bool.and_eq_true, Bool.not_eq_true', decide_eq_false_iff_not, Bool.or_eq_true, decide_eq_true_eq] at hf1
      obtain ⟨d1, d2, d3⟩ := hf1
      have d2' : Y 1 p ≤ Y 2 s := le_nlt.mpr d2
      unfold fitP heldP
      rw [decide_eq_false d1, decide_eq_true d2']
      rcases d3 with d3 | d3
      · rw [decide_eq_true d3]; rfl
      · rw [decide_eq_true d3]; simp
    · have := hg q hq
      unfold fqP at this
      rw [Bool.and_eq_true, Bool.not_eq_true', hb, heldS_bit _ hq, hh] at this
      have h2 := this.1
      simpa using h2
    · have := hf2 q hq
      unfold okQ at this
      rw [Bool.and_eq_true, Bool.not_eq_true', hqA, decide_eq_false (Ne.symm hne), clP_any] at this
      have h2 := this.1
      rw [Bool.true_and, Bool.not_false, Bool.true_and, Bool.or_eq_false_iff, Bool.or_eq_false_iff] at h2
      exact ⟨by rw [s1 q p hq hp]; exact h2.1, h2.2.2⟩
    · have := hf2 q hq
      unfold okQ at this
      rw [Bool.and_eq_true, Bool.not_eq_true', Bool.not_eq_true', heldS_bit _ hq, hh, s0 p q hp hq, hb] at this
      have h2 := this.2
      simpa using h2
theorem VW_all {X Y : Mem} (h5 : r5 (X 7) (X 8) (X 9) (Y 6)) (A : Nat → Nat) : ∀ n, (OkA (VX Y) A n ↔ OkA (WX Y) A n) ∧ (OkA (VX Y) A n → clo Y (unA A n))
  | 0 => ⟨⟨fun _ s hs => absurd hs (Nat.not_lt_zero s), fun _ s hs => absurd hs (Nat.not_lt_zero s)⟩, fun _ p q _ _ h => by rw [show unA A 0 = 0 from rfl, Nat.zero_testBit] at h; cases h⟩
  | n + 1 => by
    obtain ⟨i1, i2⟩ := VW_all h5 A n
    refine ⟨⟨fun h s hs => ?_, fun h s hs => ?_⟩, fun h => ?_⟩
    · have hn : OkA (VX Y) A n := fun t ht => h t (by omega)
      by_cases e : s = n
      · subst e; exact (VW h5 (i2 hn)).mp (h s hs)
      · exact i1.mp hn s (by omega)
    · have hn : OkA (WX Y) A n := fun t ht => h t (by omega)
      by_cases e : s = n
      · subst e; exact (VW h5 (i2 (i1.mpr hn))).mpr (h s hs)
      · exact i1.mpr hn s (by omega)
    · have hn : OkA (VX Y) A n := fun t ht => h t (by omega)
      have hc := i2 hn
      have hv := (VX_VP.mp (h n (by omega))).2
      intro p q hp hq hpb hb hh
      have hpb' : (unA A n ||| A n).testBit p = true := hpb
      show (unA A n ||| A n).testBit q = true
      rw [Nat.testBit_or, Bool.or_eq_true] at hpb'
      rw [Nat.testBit_or]
      rcases hpb' with h1 | h1
      · rw [hc p q hp hq h1 hb hh]; rfl
      · rw [(hv p hp h1).2.2.1 q hq hb hh]; rfl
/-! what the table says of plans -/
theorem lt_low {Y : Mem} {bd : Nat → Int32} {Nf : Nat → Nat → Nat} (h : LTok Y bd (heldS (Y 1)) Nf) {A : Nat → Nat} (hA : OkA (WX Y) A 6) (hU : unA A 6 = heldS (Y 1)) (hk : ∀ s, s < 6 → kepB bd s (A s) = true) (hlt : ∀ s, s ≤ 6 → unA A s < 512) (hsub : ∀ s, s ≤ 6 → unA A s &&& heldS (Y 1) = unA A s) : Nf 0 0 ≤ usA A 6 := by
  have key : ∀ d s, s + d = 6 → Nf s (unA A s) + usA A s ≤ usA A 6 := by
    intro d
    induction d with
    | zero =>
      intro s hs
      have e : s = 6 := by omega
      subst e
      rw [h.1 _ (hlt 6 (by decide)), hU, if_pos rfl]; omega
    | succ d ih =>
      intro s hs
      have h1 := ih (s + 1) (by omega)
      have hw := hA s (by omega)
      have h2 := ((h.2 s (by omega) (unA A s) (hlt s (by omega))).2 (hsub s (by omega))).1 (A s) hw.1 (by dsimp only; rw [hw.2.1, hk s (by omega)]; rfl) hw.2.2
      have h3 : usA A (s + 1) = usA A s + n1 (A s) := rfl
      have h4 : unA A (s + 1) = unA A s ||| A s := rfl
      rw [h4] at h1
      omega
  have := key 6 0 (by decide)
  have h5 : usA A 0 = 0 := rfl
  have h6 : unA A 0 = 0 := rfl
  rw [h6] at this
  omega
theorem lt_plan {Y : Mem} {bd : Nat → Int32} {Nf : Nat → Nat → Nat} (h : LTok Y bd (heldS (Y 1)) Nf) (h99 : Nf 0 0 < 99) : ∃ A, OkA (WX Y) A 6 ∧ unA A 6 = heldS (Y 1) ∧ (∀ s, s < 6 → kepB bd s (A s) = true) ∧ usA A 6 = Nf 0 0 := by
  have hHd : heldS (Y 1) < 512 := heldS_lt _
  have key : ∀ s, s ≤ 6 → ∃ A, OkA (WX Y) A s ∧ (∀ t, t < s → kepB bd t (A t) = true) ∧ unA A s < 512 ∧ unA A s &&& heldS (Y 1) = unA A s ∧ usA A s + Nf s (unA A s) = Nf 0 0 := by
    intro s
    induction s with
    | zero => intro _; exact ⟨fun _ => 0, fun s hs => absurd hs (Nat.not_lt_zero s), fun s hs => absurd hs (Nat.not_lt_zero s), by decide, Nat.zero_and _, by show 0 + Nf 0 0 = _; omega⟩
    | succ s ih =>
      intro hs
      obtain ⟨A, a1, a2, a3, a4, a5⟩ := ih (by omega)
      obtain ⟨x, x1, x2, x3, x4⟩ := ((h.2 s (by omega) (unA A s) a3).2 a4).2 (by omega)
      rw [Bool.and_eq_true] at x2
      have hz : ∀ t, t < s → A t = un A s x t := fun t ht => (un_n (by omega)).symm
      have hx : x < 512 := by rw [← x1]; exact Nat.lt_of_le_of_lt Nat.and_le_right (nd_lt (k := 9) hHd)
      have eU : unA (un A s x) (s + 1) = unA A s ||| x := by
        show unA (un A s x) s ||| un A s x s = _
        rw [← unA_ext hz, un_s]
      refine ⟨un A s x, fun t ht => ?_, fun t ht => ?_, ?_, ?_, ?_⟩
      · by_cases e : t = s
        · subst e
          rw [un_s, ← unA_ext hz]; exact ⟨x1, x2.1, x3⟩
        · exact OkA_ext hz a1 t (by omega)
      · by_cases e : t = s
        · subst e; rw [un_s]; exact x2.2
        · rw [un_n e]; exact a2 t (by omega)
      · rw [eU]; exact Nat.or_lt_two_pow (n := 9) a3 hx
      · rw [eU, Nat.and_or_distrib_right, a4]
        congr 1
        refine sub_of (fun p hp => ?_)
        have := sub_bit x1 hp
        rw [nd_bit, Bool.and_eq_true] at this
        exact this.1
      · rw [eU]
        have e1 : usA (un A s x) (s + 1) = usA (un A s x) s + n1 (un A s x s) := rfl
        rw [e1, ← usA_ext hz, un_s]
        omega
  obtain ⟨A, a1, a2, a3, a4, a5⟩ := key 6 (Nat.le_refl _)
  have h6 := h.1 _ a3
  by_cases e : unA A 6 = heldS (Y 1)
  · rw [if_pos e] at h6
    exact ⟨A, a1, e, a2, by omega⟩
  · rw [if_neg e] at h6; omega
