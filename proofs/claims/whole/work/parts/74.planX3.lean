/-! ===== the class reads its plan ===== -/
theorem dg_zero (A : Nat → Nat) (p : Nat) : ∀ n, (unA A n).testBit p = false → dgA A n p = 0
  | 0, _ => rfl
  | n + 1, h => by
    have h' : (unA A n ||| A n).testBit p = false := h
    rw [Nat.testBit_or, Bool.or_eq_false_iff] at h'
    show dgA A n p + n * ((A n).testBit p).toNat = 0
    rw [dg_zero A p n h'.1, h'.2]; simp
theorem dg_is {V : Nat → Nat → Nat → Prop} (hV : ∀ s P A, V s P A → P &&& A = 0) {A : Nat → Nat} {p t : Nat} : ∀ {n : Nat}, OkA V A n → t < n → (A t).testBit p = true → dgA A n p = t
  | 0, _, h, _ => absurd h (Nat.not_lt_zero t)
  | n + 1, hA, ht, hp => by
    have hd := and_z.mp (hV _ _ _ (hA n (Nat.lt_succ_self n))) p
    have hA' : OkA V A n := fun s hs => hA s (Nat.lt_succ_of_lt hs)
    show dgA A n p + n * ((A n).testBit p).toNat = t
    by_cases e : t = n
    · subst e
      rw [hp, Bool.and_true] at hd
      rw [dg_zero A p t hd, hp]; simp
    · have hu : (unA A n).testBit p = true := by rw [unA_bit]; exact anyB_t.mpr ⟨t, by omega, hp⟩
      rw [hu, Bool.true_and] at hd
      rw [dg_is hV hA' (by omega) hp, hd]; simp
theorem dg_lt {V : Nat → Nat → Nat → Prop} (hV : ∀ s P A, V s P A → P &&& A = 0) {A : Nat → Nat} (hA : OkA V A 6) (p : Nat) : dgA A 6 p < 6 := by
  cases h : (unA A 6).testBit p with
  | false => rw [dg_zero A p 6 h]; decide
  | true =>
    rw [unA_bit] at h
    obtain ⟨t, h1, h2⟩ := anyB_t.mp h
    rw [dg_is hV hA h1 h2]; exact h1
theorem hv_lt {d : Nat → Nat} (hd : ∀ p, d p < 6) : ∀ n, hv d n < 6 ^ n
  | 0 => by show 0 < 1; decide
  | n + 1 => by
    have h1 := hv_lt hd n
    have h2 := hd n
    show 6 * hv d n + d n < 6 ^ n * 6
    omega
theorem xT_read {X Y : Mem} (hT : qT X Y) {d : Nat → Nat} (hd : ∀ p, d p < 6) : ∃ X', fT_readPlan (nI (hv d 9)) X = some X' ∧ (∀ j, j ≠ 11 → X' j = X j) ∧ (∀ p, p < 9 → X' 11 p = if heldP (Y 1) p = true then nI (d p) else -1) := by
  have hlt : heldS (Y 1) < 2 ^ 31 := Nat.lt_trans (heldS_lt _) (by decide)
  have h := xlp_inv (b := bT_readPlan_11 (nI (heldS (Y 1)))) (fun j (st : Int32 × Int32 × Mem) => ∃ L : Mem, st = (nI (hv d (9 - j)), nI (9 - j) - 1, L) ∧ (∀ i, i ≠ 11 → L i = X i) ∧ (∀ p, 9 - j ≤ p → p < 9 → L 11 p = if heldP (Y 1) p = true then nI (d p) else -1)) (fun t => ∃ (v w : Int32) (L : Mem), t = (v, w, L) ∧ (∀ i, i ≠ 11 → L i = X i) ∧ (∀ p, p < 9 → L 11 p = if heldP (Y 1) p = true then nI (d p) else -1)) 9 ?_ (nI (hv d 9), 8, X) ⟨X, rfl, fun _ _ => rfl, fun p h1 h2 => by omega⟩
  · obtain ⟨t, t1, v, w, L, rfl, t2, t3⟩ := h
    refine ⟨L, ?_, t2, t3⟩
    unfold fT_readPlan
    rw [xT_held (y1 := Y 1) (fun p hp => (hT.1 p hp).1), xbd_eq, t1, xbd_eq]; rfl
  · rintro j st hj ⟨L, rfl, f1, f2⟩
    dsimp only [bT_readPlan_11, gT_readPlan_11]
    by_cases e : j = 9
    · subst e
      exact Or.inl ⟨_, if_pos (by decide), _, _, L, rfl, f1, fun p hp => f2 p (by omega) hp⟩
    · obtain ⟨p, hp⟩ : ∃ p, 9 - j = p + 1 := ⟨8 - j, by omega⟩
      have hp9 : p < 9 := by omega
      refine Or.inr ⟨by omega, ?_⟩
      have hvl : hv d (p + 1) < 6 ^ 9 := Nat.lt_of_lt_of_le (hv_lt hd (p + 1)) (Nat.pow_le_pow_right (by decide) (by omega))
      have p69 : (6 : Nat) ^ 9 = 10077696 := by decide
      have e1 : nI (hv d (p + 1)) / 6 = nI (hv d p) := by
        have h1 : nI (hv d (p + 1)) / nI 6 = nI (hv d (p + 1) / 6) := pk_div (by omega) (by decide) (by decide)
        rw [show hv d (p + 1) / 6 = hv d p by show (6 * hv d p + d p) / 6 = _; have := hd p; omega] at h1
        exact h1
      have e2 : nI (hv d (p + 1)) - nI (hv d (p + 1)) / 6 * 6 = nI (d p) := by
        have h1 : nI (hv d (p + 1)) - nI (hv d (p + 1)) / nI 6 * nI 6 = nI (hv d (p + 1) % 6) := pk_rem (by omega) (by decide) (by decide)
        rw [show hv d (p + 1) % 6 = d p by show (6 * hv d p + d p) % 6 = _; have := hd p; omega] at h1
        exact h1
      rw [hp, sit1, if_neg (nI_pos (by omega)), xE_has hlt (by omega), xbd_eq, e2]
      unfold fT_readPlan_39
      simp only [xgd_pos (vi_ hp9 (show 9 < 100000 by decide)), xlt_eq, cl_ (show p < 100000 by omega), e1, sub1, bz_0]
      have hb : (heldS (Y 1)).testBit p = heldP (Y 1) p := by unfold heldS; rw [sO_bit, decide_eq_true hp9, Bool.true_and]
      rw [hb, show 9 - (j + 1) = p by omega]
      have fin : ∀ v, v = (if heldP (Y 1) p = true then nI (d p) else -1) → ∃ s', (some (Sum.inr (nI (hv d p), nI p - 1, up2 L 11 p v)) : Option ((Int32 × Int32 × Mem) ⊕ (Int32 × Int32 × Mem))) = some (.inr s') ∧ ∃ L : Mem, s' = (nI (hv d p), nI p - 1, L) ∧ (∀ i, i ≠ 11 → L i = X i) ∧ (∀ p', p ≤ p' → p' < 9 → L 11 p' = if heldP (Y 1) p' = true then nI (d p') else -1) := by
        intro v hv'
        refine ⟨_, rfl, _, rfl, fun i hi => by rw [up2_ne hi]; exact f1 i hi, fun p' h1 h2 => ?_⟩
        rw [up2_same]
        by_cases e3 : p' = p
        · subst e3; rw [pk_us, hv']
        · rw [pk_un e3]; exact f2 p' (by omega) h2
      cases hh : heldP (Y 1) p with
      | false => rw [if_pos rfl]; exact fin _ (by rw [hh]; rfl)
      | true => rw [if_neg (by decide)]; exact fin _ (by rw [hh]; rfl)
theorem cls_plan {X Y : Mem} (hT : qT X Y) (h8 : r8 (X 13) (X 15 0) (X 16 0)) : ∃ r X', fT_makePlan X = some (r, X') ∧ (∀ j, j ≠ 1 → j ≠ 11 → j ≠ 12 → j ≠ 14 → j ≠ 15 → j ≠ 16 → j ≠ 17 → X' j = X j) ∧ X' 15 0 = 0 ∧ X' 16 0 = 0 ∧
    ((r = -1 ∧ X' 1 = X 1 ∧ X' 11 = X 11 ∧ ∀ A, OkA (VX Y) A 6 → unA A 6 ≠ heldS (Y 1)) ∨
     (∃ A, OkA (VX Y) A 6 ∧ unA A 6 = heldS (Y 1) ∧ (∀ A', OkA (VX Y) A' 6 → unA A' 6 = heldS (Y 1) → csA A 6 ≤ csA A' 6) ∧ r = nI (usA A 6) ∧ X' 1 7 = 1 ∧ X' 1 8 = nI (usA A 6) ∧ ∀ p, p < 9 → X' 11 p = if heldP (Y 1) p = true then nI (dgA A 6 p) else -1)) := by
  have p30 : (2 : Nat) ^ 30 = 1073741824 := by decide
  have hVP : ∀ s P A, VX Y s P A → P &&& A = 0 := fun s P A h => VX_P h
  obtain ⟨M1, B, m1, m2, m3, m4, m5⟩ := xP_least hT h8
  have hHd : heldS (Y 1) < 512 := heldS_lt _
  have hBle := (m5.1 _ hHd).1
  unfold fT_makePlan
  rw [m1, xbd_eq]
  by_cases hlt : B (heldS (Y 1)) < 2 ^ 30
  · obtain ⟨A, a1, a2, a3⟩ := (m5.1 _ hHd).2 hlt
    obtain ⟨c1, c2⟩ := csA_lt hVP a1
    have hu : usA A 6 ≤ 6 := cnt_le _ 6
    rw [if_neg (show ¬ nI (B (heldS (Y 1))) = 1073741824 from fun e => by
      have : B (heldS (Y 1)) = 1073741824 := (nI_eq (by omega) (by decide)).mp e
      omega)]
    have ediv : nI (B (heldS (Y 1))) / 10077696 = nI (usA A 6) := by
      have h1 : nI (B (heldS (Y 1))) / nI 10077696 = nI (B (heldS (Y 1)) / 10077696) := pk_div (by omega) (by decide) (by decide)
      rw [show B (heldS (Y 1)) / 10077696 = usA A 6 by rw [← a3]; unfold csA; omega] at h1
      exact h1
    have emod : nI (B (heldS (Y 1))) - nI (B (heldS (Y 1))) / 10077696 * 10077696 = nI (hv (dgA A 6) 9) := by
      have h1 : nI (B (heldS (Y 1))) - nI (B (heldS (Y 1))) / nI 10077696 * nI 10077696 = nI (B (heldS (Y 1)) % 10077696) := pk_rem (by omega) (by decide) (by decide)
      rw [show B (heldS (Y 1)) % 10077696 = hv (dgA A 6) 9 by rw [← a3, ← coA_hv]; unfold csA; omega] at h1
      exact h1
    have fr : ∀ j, j ≠ 1 → up2 (up2 M1 1 7 1) 1 8 (nI (usA A 6)) j = M1 j := fun j hj => by rw [up2_ne hj, up2_ne hj]
    obtain ⟨X', r1', r2', r3'⟩ := xT_read (X := up2 (up2 M1 1 7 1) 1 8 (nI (usA A 6))) (Y := Y) (qT_c (fun j h1 h2 => by rw [fr j (by omega), m2 j (by omega) (by omega) (by omega) (by omega) (by omega)]) (fun _ _ _ => rfl) hT) (d := dgA A 6) (dg_lt hVP a1)
    dsimp only
    rw [xlt_eq, xlt_eq, ediv]
    rw [ediv] at emod
    rw [emod, r1', xbd_eq]
    have e17 : X' 1 7 = 1 := by rw [r2' 1 (by decide)]; rfl
    have e18 : X' 1 8 = nI (usA A 6) := by rw [r2' 1 (by decide)]; exact up2_at _ _ _ _
    refine ⟨_, X', rfl, fun j h1 h2 h3 h4 h5 h6 h7 => by rw [r2' j h2, fr j h1]; exact m2 j h3 h4 h5 h6 h7, by rw [r2' 15 (by decide), fr 15 (by decide)]; exact m3, by rw [r2' 16 (by decide), fr 16 (by decide)]; exact m4, Or.inr ⟨A, a1, a2, fun A' b1 b2 => ?_, e18, e17, e18, r3'⟩⟩
    rcases m5.2 A' b1 with h9 | h9
    · rw [b2] at h9; omega
    · omega
  · have e : B (heldS (Y 1)) = 1073741824 := by omega
    rw [if_pos (show nI (B (heldS (Y 1))) = 1073741824 by rw [e]; rfl)]
    refine ⟨-1, M1, rfl, fun j _ _ h3 h4 h5 h6 h7 => m2 j h3 h4 h5 h6 h7, m3, m4, Or.inl ⟨rfl, m2 1 (by decide) (by decide) (by decide) (by decide) (by decide), m2 11 (by decide) (by decide) (by decide) (by decide) (by decide), fun A hA hU => ?_⟩⟩
    have c1 := (csA_lt hVP hA).1
    rcases m5.2 A hA with h9 | h9
    · rw [hU] at h9; omega
    · omega
