/-! ===== the class: who has time, who is suited, are they enough ===== -/
def wcS (y21 : Nat → Int32) (i : Nat) : Nat := cnt (fun s => anyB (fun r => bq (y21 (40 * s + 10 * r + i))) 4) 6
theorem sm_any {P : Nat → Bool} : ∀ {n : Nat}, (∀ a b, a < n → b < n → P a = true → P b = true → a = b) → sm (fun r => (P r).toNat) n = (anyB P n).toNat
  | 0, _ => rfl
  | n + 1, h => by
    show sm (fun r => (P r).toNat) n + (P n).toNat = (anyB P n || P n).toNat
    rw [sm_any (fun a b ha hb => h a b (Nat.lt_succ_of_lt ha) (Nat.lt_succ_of_lt hb))]
    cases hp : P n with
    | false => rw [Bool.or_false]; rfl
    | true =>
      cases ha : anyB P n with
      | false => rfl
      | true =>
        obtain ⟨i, h1, h2⟩ := anyB_t.mp ha
        have := h i n (by omega) (by omega) h2 hp
        omega
theorem sm_cnt (P : Nat → Bool) : ∀ n, sm (fun i => (P i).toNat) n = cnt P n
  | 0 => rfl
  | n + 1 => by show sm _ n + _ = cnt P n + _; rw [sm_cnt P n]
theorem xO_watchesOf {X Y : Mem} (hW : qW X Y) {i : Nat} (hi : i < 10) : fO_watchesOf (nI i) X = some (nI (wcS (Y 21) i)) := by
  have inner : ∀ (s a : Nat), s < 6 → xlp (bO_watchesOf_13 (nI i) (nI s) X) (nI a, 0) = some (nI (a + sm (fun r => (bq (Y 21 (40 * s + 10 * r + i))).toNat) 4), nI 4) := by
    intro s a hs
    refine run2 (n := 4) (fun r => nI (a + sm (fun r => (bq (Y 21 (40 * s + 10 * r + i))).toNat) r)) (fun r hr => ?_) ?_
    · dsimp only [bO_watchesOf_13, gO_watchesOf_13]
      have g := hW.1 s r hs hr
      rw [seg_at _ hs] at g
      unfold fO_watchesOf_41
      rw [if_neg (show ¬ (4 : Int32) ≤ nI r from nI_ltc hr (by decide)), xgd_pos (vi_ hs (by decide)), xgd_pos (vi_ hr (by decide)), cl_ (show s < 100000 by omega), cl_ (show r < 100000 by omega), show (47 : Nat) + 1 + s = 48 + s by omega, g, xE_has (Nat.lt_trans (wY_lt _ _ _) (by decide)) (by omega), xbd_eq, wY_bit _ _ _ hi]
      simp only [xlt_eq, nI_1 r]
      show _ = some (Sum.inr (nI (a + (sm (fun r => (bq (Y 21 (40 * s + 10 * r + i))).toNat) r + (bq (Y 21 (40 * s + 10 * r + i))).toNat)), _))
      cases bq (Y 21 (40 * s + 10 * r + i)) with
      | false => rw [if_pos (by decide), show (0 : Int32) = nI 0 from rfl, nI_add]; rfl
      | true => rw [if_neg (by decide), show (1 : Int32) = nI 1 from rfl, nI_add]; rfl
    · dsimp only [bO_watchesOf_13, gO_watchesOf_13]; exact if_pos (Int32.le_refl (nI 4))
  have hr : xlp (bO_watchesOf_4 (nI i) X) (0, 0) = some (nI (sm (fun s => sm (fun r => (bq (Y 21 (40 * s + 10 * r + i))).toNat) 4) 6), nI 6) := by
    refine run2 (n := 6) (fun s => nI (sm (fun s => sm (fun r => (bq (Y 21 (40 * s + 10 * r + i))).toNat) 4) s)) (fun s hs => ?_) ?_
    · dsimp only [bO_watchesOf_4, gO_watchesOf_4]
      rw [if_neg (show ¬ (6 : Int32) ≤ nI s from nI_ltc hs (by decide)), inner s _ hs, xbd_eq]
      unfold fO_watchesOf_49
      rw [xlt_eq, nI_1]; rfl
    · dsimp only [bO_watchesOf_4, gO_watchesOf_4]; exact if_pos (Int32.le_refl (nI 6))
  unfold fO_watchesOf
  rw [hr, xbd_eq]
  unfold fO_watchesOf_55 wcS
  refine congrArg (fun z => some (nI z)) ?_
  show sm (fun s => sm (fun r => (bq (Y 21 (40 * s + 10 * r + i))).toNat) 4) 6 = _
  rw [← sm_cnt]
  refine sm_ext (fun s hs => sm_any (fun a b ha hb pa pb => hW.2.2 s i hs hi a b ha hb (bq_t.mp pa) (bq_t.mp pb)))
def tmP (y19 y21 : Nat → Int32) : Nat → Bool := fun i => !decide (y19 i ≤ nI (wcS y21 i))
theorem xO_time {X Y : Mem} (hW : qW X Y) (h13 : r13 (X 45) (Y 19)) : fO_thoseWithTime X = some (nI (sO (tmP (Y 19) (Y 21)) 10)) := by
  have hr : xlp (bO_thoseWithTime_4 X) (nI (sO (tmP (Y 19) (Y 21)) 0), 0) = some (nI (sO (tmP (Y 19) (Y 21)) 10), nI 10) := by
    refine run2 (n := 10) (fun i => nI (sO (tmP (Y 19) (Y 21)) i)) (fun i hi => ?_) ?_
    · dsimp only [bO_thoseWithTime_4, gO_thoseWithTime_4]
      have hlt : sO (tmP (Y 19) (Y 21)) i < 2 ^ 31 := Nat.lt_of_lt_of_le (sO_lt _ i) (Nat.pow_le_pow_right (by decide) (by omega))
      rw [if_neg (show ¬ (10 : Int32) ≤ nI i from nI_ltc hi (by decide)), xO_watchesOf hW hi, xbd_eq, xgd_pos (vi_ hi (by decide)), cl_ (by omega), (h13 i hi).1]
      unfold fO_thoseWithTime_31
      have w0 : fE_with (nI (sO (tmP (Y 19) (Y 21)) i)) (nI i) 0 = some (nI (wit (sO (tmP (Y 19) (Y 21)) i) i false)) := xE_with (z := false) hlt (by omega)
      have w1 : fE_with (nI (sO (tmP (Y 19) (Y 21)) i)) (nI i) 1 = some (nI (wit (sO (tmP (Y 19) (Y 21)) i) i true)) := xE_with (z := true) hlt (by omega)
      rw [w0, w1, xbd_eq, xbd_eq, xlt_eq, xlt_eq, nI_1]
      show _ = some (Sum.inr (nI (wit (sO (tmP (Y 19) (Y 21)) i) i (tmP (Y 19) (Y 21) i)), _))
      by_cases e : Y 19 i ≤ nI (wcS (Y 21) i)
      · rw [if_pos e, show tmP (Y 19) (Y 21) i = false by unfold tmP; simp [e]]
      · rw [if_neg e, show tmP (Y 19) (Y 21) i = true by unfold tmP; simp [e]]
    · dsimp only [bO_thoseWithTime_4, gO_thoseWithTime_4]; exact if_pos (Int32.le_refl (nI 10))
  unfold fO_thoseWithTime
  show xbd (xlp _ (nI (sO (tmP (Y 19) (Y 21)) 0), 0)) _ = _
  rw [hr, xbd_eq]; rfl
/-- the papers written in a room -/
def ppP (q pa : Nat → Nat → Nat) (s r n : Nat) : Nat → Bool := fun p => anyB (fun k => decide (q s (36 * r + k) ≠ 0) && decide (pa s (36 * r + k) = p)) n
theorem xR_papers {X : Mem} {q pa : Nat → Nat → Nat} (h : qC X q pa) {s r : Nat} (hs : s < 6) (hr : r < 4) : fR_papersIn (nI s) (nI r) X = some (nI (sO (ppP q pa s r 36) 9)) := by
  have hrun : xlp (bR_papersIn_8 (nI s) (nI r) X) (nI (sO (ppP q pa s r 0) 9), nI (36 * r)) = some (nI (sO (ppP q pa s r 36) 9), nI (36 * r + 36)) := by
    refine runA (n := 36) (36 * r) (fun i => nI (sO (ppP q pa s r i) 9)) (fun i hi => ?_) ?_
    · dsimp only [bR_papersIn_8, gR_papersIn_8]
      have hk : 36 * r + i < 144 := by omega
      obtain ⟨g1, g2, g3, g4⟩ := (h s hs).1 _ hk
      rw [seg_at _ hs] at g3 g4
      rw [nI_1 r, show nI (r + 1) * 36 = nI (36 * r + 36) by show nI (r + 1) * nI 36 = _; rw [pk_mul]; congr 1; omega, if_neg (nI_ltc (show 36 * r + i < 36 * r + 36 by omega) (by omega)), xgd_pos (vi_ hs (by decide)), xgd_pos (vi_ hk (by decide)), xgd_pos (vi_ hs (by decide)), xgd_pos (vi_ hk (by decide)), cl_ (show s < 100000 by omega), cl_ (show 36 * r + i < 100000 by omega), show (30 : Nat) + 1 + s = 31 + s by omega]
      unfold fR_papersIn_46
      simp only [xlt_eq, nI_1 (36 * r + i)]
      by_cases e : q s (36 * r + i) = 0
      · rw [g4 e, if_pos rfl]
        congr 3
        refine congrArg nI (sO_ext (fun p hp => ?_))
        show _ = (anyB _ i || _)
        dsimp only
        rw [show (decide (q s (36 * r + i) ≠ 0) && decide (pa s (36 * r + i) = p)) = false by simp [e], Bool.or_false]; rfl
      · obtain ⟨k1, k2⟩ := g3 e
        rw [k2, if_neg (nIm1 (by omega)), sh_1 _ (by omega), nI_or]
        congr 3
        refine congrArg nI (bits_eq (k := 9) (Nat.or_lt_two_pow (sO_lt _ 9) (Nat.pow_lt_pow_right (by decide) k1)) (sO_lt _ 9) (fun p hp => ?_))
        rw [Nat.testBit_or, Nat.testBit_two_pow, sO_bit, sO_bit]
        show _ = (decide (p < 9) && (anyB _ i || _))
        dsimp only
        rw [show (decide (q s (36 * r + i) ≠ 0) && decide (pa s (36 * r + i) = p)) = decide (pa s (36 * r + i) = p) by simp [e]]
        simp only [hp, decide_true, Bool.true_and]
        rfl
    · dsimp only [bR_papersIn_8, gR_papersIn_8]
      rw [nI_1 r, show nI (r + 1) * 36 = nI (36 * r + 36) by show nI (r + 1) * nI 36 = _; rw [pk_mul]; congr 1; omega]
      exact if_pos (Int32.le_refl _)
  unfold fR_papersIn
  rw [xlt_eq, show nI r * 36 = nI (36 * r) by show nI r * nI 36 = _; rw [pk_mul]; congr 1; omega]
  rw [show sO (ppP q pa s r 0) 9 = 0 from sO_z (fun _ _ => rfl)] at hrun
  rw [show ((0 : Int32), nI (36 * r)) = (nI 0, nI (36 * r)) from rfl, hrun, xbd_eq]; rfl
/-- who has no own paper written there -/
def suP (q pa : Nat → Nat → Nat) (y20 : Nat → Int32) (s r : Nat) : Nat → Bool := fun i => !anyB (fun k => decide (q s (36 * r + k) ≠ 0) && bq (y20 (9 * i + pa s (36 * r + k)))) 36
theorem and_z {a b : Nat} : a &&& b = 0 ↔ ∀ i, (a.testBit i && b.testBit i) = false := by
  constructor
  · intro h i
    have : (a &&& b).testBit i = false := by rw [h]; exact Nat.zero_testBit i
    rwa [Nat.testBit_and] at this
  · intro h
    apply Nat.eq_of_testBit_eq
    intro i
    rw [Nat.testBit_and, h i, Nat.zero_testBit]
theorem xO_without {X Y : Mem} (h14 : r14 (X 46) (Y 20)) {q pa : Nat → Nat → Nat} (hpa : ∀ s k, s < 6 → k < 144 → q s k ≠ 0 → pa s k < 9) {s r : Nat} (hs : s < 6) (hr : r < 4) : fO_thoseWithout (nI (sO (ppP q pa s r 36) 9)) X = some (nI (sO (suP q pa (Y 20) s r) 10)) := by
  have hrun : xlp (bO_thoseWithout_4 (nI (sO (ppP q pa s r 36) 9)) X) (nI (sO (suP q pa (Y 20) s r) 0), 0) = some (nI (sO (suP q pa (Y 20) s r) 10), nI 10) := by
    refine run2 (n := 10) (fun i => nI (sO (suP q pa (Y 20) s r) i)) (fun i hi => ?_) ?_
    · dsimp only [bO_thoseWithout_4, gO_thoseWithout_4]
      have hlt : sO (suP q pa (Y 20) s r) i < 2 ^ 31 := Nat.lt_of_lt_of_le (sO_lt _ i) (Nat.pow_le_pow_right (by decide) (by omega))
      rw [if_neg (show ¬ (10 : Int32) ≤ nI i from nI_ltc hi (by decide)), xgd_pos (vi_ hi (by decide)), cl_ (by omega), h14.1 i hi, nI_and]
      unfold fO_thoseWithout_28
      have w0 : fE_with (nI (sO (suP q pa (Y 20) s r) i)) (nI i) 0 = some (nI (wit (sO (suP q pa (Y 20) s r) i) i false)) := xE_with (z := false) hlt (by omega)
      have w1 : fE_with (nI (sO (suP q pa (Y 20) s r) i)) (nI i) 1 = some (nI (wit (sO (suP q pa (Y 20) s r) i) i true)) := xE_with (z := true) hlt (by omega)
      rw [w0, w1, xbd_eq, xbd_eq, xlt_eq, xlt_eq, nI_1]
      show _ = some (Sum.inr (nI (wit (sO (suP q pa (Y 20) s r) i) i (suP q pa (Y 20) s r i)), _))
      have iff : nI (oY (Y 20) i &&& sO (ppP q pa s r 36) 9) = 0 ↔ suP q pa (Y 20) s r i = true := by
        rw [nI_zero (Nat.lt_of_le_of_lt Nat.and_le_left (oY_lt _ _)), and_z]
        unfold suP
        rw [Bool.not_eq_true', Bool.eq_false_iff]
        constructor
        · intro h e
          obtain ⟨k, h1, h2⟩ := anyB_t.mp e
          rw [Bool.and_eq_true, decide_eq_true_eq] at h2
          have hp := hpa s (36 * r + k) hs (by omega) h2.1
          have := h (pa s (36 * r + k))
          rw [oY_bit _ _ hp, h2.2, sO_bit, decide_eq_true hp] at this
          rw [show ppP q pa s r 36 (pa s (36 * r + k)) = true from anyB_t.mpr ⟨k, h1, by simp [h2.1]⟩] at this
          cases this
        · intro h p
          rw [sO_bit]
          by_cases hp : p < 9
          · rw [oY_bit _ _ hp]
            rw [Bool.eq_false_iff]; intro e
            rw [Bool.and_eq_true, Bool.and_eq_true] at e
            obtain ⟨k, h1, h2⟩ := anyB_t.mp e.2.2
            rw [Bool.and_eq_true, decide_eq_true_eq, decide_eq_true_eq] at h2
            exact h (anyB_t.mpr ⟨k, h1, by rw [h2.2, e.1]; simp [h2.1]⟩)
          · rw [decide_eq_false hp, Bool.false_and, Bool.and_false]
      by_cases e : nI (oY (Y 20) i &&& sO (ppP q pa s r 36) 9) = 0
      · rw [if_pos e, iff.mp e]
      · rw [if_neg e, show suP q pa (Y 20) s r i = false from Bool.eq_false_iff.mpr (fun h => e (iff.mpr h))]
    · dsimp only [bO_thoseWithout_4, gO_thoseWithout_4]; exact if_pos (Int32.le_refl (nI 10))
  unfold fO_thoseWithout
  show xbd (xlp _ (nI (sO (suP q pa (Y 20) s r) 0), 0)) _ = _
  rw [hrun, xbd_eq]; rfl
theorem nI_leN {a b : Nat} (ha : a < 2 ^ 31) (hb : b < 2 ^ 31) : nI a ≤ nI b ↔ a ≤ b := nI_leI ha hb
theorem grpM_le {m : Nat → Nat} (hm : ∀ r, r < 4 → m r ≤ 5) (g : Nat) : ∀ n, n ≤ 4 → sm (fun r => (g.testBit r).toNat * m r) n ≤ 5 * n
  | 0, _ => Nat.le_refl _
  | n + 1, h => by
    have h1 := grpM_le hm g n (by omega)
    have h2 := hm n (by omega)
    have h3 : (g.testBit n).toNat * m n ≤ m n := by cases g.testBit n <;> simp
    show sm _ n + (g.testBit n).toNat * m n ≤ _
    omega
/-- areEnough: any rooms together find as many as they miss -/
theorem xO_enough {X : Mem} {S : Nat → Nat → Bool} {F : Nat} {m : Nat → Nat} (hF : F < 2 ^ 10) (hm : ∀ r, r < 4 → m r ≤ 5) (h54 : ∀ r, r < 4 → X 54 r = nI (m r)) (h55 : ∀ r, r < 4 → X 55 r = nI (sO (S r) 10)) : ∃ z : Bool, fO_areEnough (nI F) X = some (bz z) ∧ (z = true ↔ Hall S (fun i => F.testBit i) m) := by
  have inner : ∀ g, g < 16 → xlp (bO_areEnough_16 (nI F) (nI g) X) (0, 0, 0) = some (nI (sO (fun i => anyB (fun r => g.testBit r && (S r i && F.testBit i)) 4) 10), nI (grpM m g), nI 4) := by
    intro g hg
    have h := xlp_run (b := bO_areEnough_16 (nI F) (nI g) X) (r := (nI (sO (fun i => anyB (fun r => g.testBit r && (S r i && F.testBit i)) 4) 10), nI (grpM m g), nI 4)) (fun r => (nI (sO (fun i => anyB (fun r => g.testBit r && (S r i && F.testBit i)) r) 10), nI (sm (fun r => (g.testBit r).toNat * m r) r), nI r)) 4 (fun r hr => ?_) ?_ 0 (Nat.zero_le _)
    · rw [show sO (fun i => anyB (fun r => g.testBit r && (S r i && F.testBit i)) 0) 10 = 0 from sO_z (fun _ _ => rfl)] at h
      exact h
    · dsimp only [bO_areEnough_16, gO_areEnough_16]
      rw [if_neg (show ¬ (4 : Int32) ≤ nI r from nI_ltc hr (by decide)), xE_has (by omega) (by omega), xbd_eq]
      simp only [xgd_pos (vi_ hr (show 4 < 100000 by decide)), xlt_eq]
      rw [cl_ (by omega), h54 r hr, h55 r hr, nI_and, nI_or]
      unfold fO_areEnough_55
      simp only [xlt_eq, nI_1, nI_add]
      show _ = some (Sum.inr (_, nI (sm (fun r => (g.testBit r).toNat * m r) r + (g.testBit r).toNat * m r), _))
      cases hb : g.testBit r with
      | false =>
        rw [if_pos (by decide)]
        rw [show sO (fun i => anyB (fun r => g.testBit r && (S r i && F.testBit i)) (r + 1)) 10 = sO (fun i => anyB (fun r => g.testBit r && (S r i && F.testBit i)) r) 10 from sO_ext (fun i hi => by
          show (anyB _ r || _) = _
          dsimp only
          rw [hb, Bool.false_and, Bool.or_false])]
        rw [show (false : Bool).toNat * m r = 0 by simp]; rfl
      | true =>
        rw [if_neg (by decide)]
        rw [show sO (fun i => anyB (fun r => g.testBit r && (S r i && F.testBit i)) (r + 1)) 10 = sO (fun i => anyB (fun r => g.testBit r && (S r i && F.testBit i)) r) 10 ||| (sO (S r) 10 &&& F) from bits_eq (k := 10) (sO_lt _ 10) (Nat.or_lt_two_pow (sO_lt _ 10) (Nat.lt_of_le_of_lt Nat.and_le_right hF)) (fun i hi => by
          rw [Nat.testBit_or, Nat.testBit_and, sO_bit, sO_bit, sO_bit]
          show (decide (i < 10) && (anyB _ r || _)) = _
          dsimp only
          rw [hb, Bool.true_and, decide_eq_true hi, Bool.true_and, Bool.true_and, Bool.true_and])]
        rw [show (true : Bool).toNat * m r = m r by simp]
    · dsimp only [bO_areEnough_16, gO_areEnough_16]; exact if_pos (Int32.le_refl (nI 4))
  have hc : ∀ g, cnt (fun i => anyB (fun r => g.testBit r && (S r i && F.testBit i)) 4) 10 = cnt (fun i => F.testBit i && grpN S g i) 10 := fun g => cnt_ext (fun i hi => by
    cases hb : F.testBit i with
    | false =>
      rw [Bool.false_and, Bool.eq_false_iff]
      intro e
      obtain ⟨r, -, hp⟩ := anyB_t.mp e
      rw [Bool.and_false, Bool.and_false] at hp; cases hp
    | true =>
      rw [Bool.true_and]
      exact anyB_ext (fun r _ => by rw [Bool.and_true]))
  have step : ∀ g, g < 16 → bO_areEnough_2 (nI F) X (nI g) = if grpM m g ≤ cnt (fun i => F.testBit i && grpN S g i) 10 then some (.inr (nI (g + 1))) else some (.inl (.inl 0)) := by
    intro g hg
    unfold bO_areEnough_2 gO_areEnough_2
    have l1 : grpM m g ≤ 20 := grpM_le hm g 4 (by decide)
    have l2 := cnt_le (fun i => F.testBit i && grpN S g i) 10
    rw [if_neg (show ¬ (16 : Int32) ≤ nI g from nI_ltc hg (by decide)), inner g hg, xbd_eq]
    unfold fO_areEnough_61
    rw [xJ_bit (sO_lt _ 10), xbd_eq, pop_sO _ (by decide), hc g, xlt_eq, nI_1, xgd_pos (by decide)]
    by_cases e : grpM m g ≤ cnt (fun i => F.testBit i && grpN S g i) 10
    · rw [if_pos ((nI_leN (by omega) (by omega)).mpr e), if_pos e]
    · rw [if_neg (fun e9 => e ((nI_leN (by omega) (by omega)).mp e9)), if_neg e]
  have z0 : grpM m 0 = 0 := by unfold grpM; simp [sm]
  have run : ∃ t, xlp (bO_areEnough_2 (nI F) X) (nI 1) = some t ∧ ((∃ v, t = .inr v ∧ Hall S (fun i => F.testBit i) m) ∨ (t = .inl 0 ∧ ¬ Hall S (fun i => F.testBit i) m)) := by
    refine xlp_inv (fun i (st : Int32) => st = nI (1 + i) ∧ ∀ g, g < 1 + i → grpM m g ≤ cnt (fun i => F.testBit i && grpN S g i) 10) _ 15 ?_ (nI 1) ⟨rfl, fun g hg => by rw [show g = 0 by omega, z0]; exact Nat.zero_le _⟩
    rintro i st hi ⟨rfl, hz⟩
    by_cases e : i = 15
    · subst e
      refine Or.inl ⟨.inr (nI 16), ?_, Or.inl ⟨nI 16, rfl, fun g hg => hz g hg⟩⟩
      unfold bO_areEnough_2 gO_areEnough_2
      exact if_pos (Int32.le_refl (nI 16))
    · rw [step (1 + i) (by omega)]
      by_cases c : grpM m (1 + i) ≤ cnt (fun j => F.testBit j && grpN S (1 + i) j) 10
      · rw [if_pos c]
        refine Or.inr ⟨by omega, _, rfl, by rw [Nat.add_assoc], fun g hg => ?_⟩
        by_cases e2 : g = 1 + i
        · subst e2; exact c
        · exact hz g (by omega)
      · rw [if_neg c]
        exact Or.inl ⟨_, rfl, Or.inr ⟨rfl, fun h => c (h _ (by omega))⟩⟩
  obtain ⟨t, t1, t2⟩ := run
  unfold fO_areEnough
  rw [show (1 : Int32) = nI 1 from rfl, t1, xbd_eq]
  rcases t2 with ⟨v, rfl, t2⟩ | ⟨rfl, t2⟩
  · exact ⟨true, xgd_pos (by decide) _, ⟨fun _ => t2, fun _ => rfl⟩⟩
  · exact ⟨false, rfl, ⟨fun h => Bool.noConfusion h, fun h => absurd h t2⟩⟩
