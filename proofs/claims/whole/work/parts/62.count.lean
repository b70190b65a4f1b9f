/-! ===== sums ===== -/
def sm (f : Nat → Nat) : Nat → Nat
  | 0 => 0
  | n + 1 => sm f n + f n
theorem sm_ext {f g : Nat → Nat} : ∀ {n : Nat}, (∀ i, i < n → f i = g i) → sm f n = sm g n
  | 0, _ => rfl
  | n + 1, h => by
    show sm f n + _ = sm g n + _
    rw [sm_ext (fun i hi => h i (Nat.lt_succ_of_lt hi)), h n (Nat.lt_succ_self n)]
theorem cnt_blk (P : Nat → Bool) (w : Nat) : ∀ n, cnt P (w * n) = sm (fun c => cnt (fun p => P (w * c + p)) w) n
  | 0 => rfl
  | n + 1 => by
    show cnt P (w * n + w) = sm _ n + _
    rw [cnt_add, cnt_blk P w n]
theorem runA {b : Int32 × Int32 → Option ((Int32 × Int32) ⊕ (Int32 × Int32))} {n : Nat} (o : Nat) (f : Nat → Int32) (hb : ∀ i, i < n → b (f i, nI (o + i)) = some (.inr (f (i + 1), nI (o + (i + 1))))) (he : b (f n, nI (o + n)) = some (.inl (f n, nI (o + n)))) : xlp b (f 0, nI o) = some (f n, nI (o + n)) :=
  xlp_run (b := b) (r := (f n, nI (o + n))) (fun i => (f i, nI (o + i))) n hb he 0 (Nat.zero_le _)
theorem pop_sO (P : Nat → Bool) {n m : Nat} (h : n ≤ m) : pop (sO P n) m = cnt P n := by
  rw [pop_ge (sO_lt P n) h]
  exact cnt_ext (fun i hi => by rw [sO_bit]; simp [hi])
/-! ===== held ===== -/
def heldP (y1 : Nat → Int32) : Nat → Bool := fun p => !decide (y1 p ≤ 0)
def heldS (y1 : Nat → Int32) : Nat := sO (heldP y1) 9
theorem xT_held {X : Mem} {y1 : Nat → Int32} (h : ∀ p, p < 9 → X 2 p = y1 p) : fT_heldPapers X = some (nI (heldS y1)) := by
  have hr : xlp (bT_heldPapers_4 X) (nI (sO (heldP y1) 0), 0) = some (nI (sO (heldP y1) 9), nI 9) := by
    refine run2 (n := 9) (fun i => nI (sO (heldP y1) i)) (fun i hi => ?_) ?_
    · dsimp only [bT_heldPapers_4, gT_heldPapers_4]
      have hlt : sO (heldP y1) i < 2 ^ 31 := Nat.lt_of_lt_of_le (sO_lt _ i) (Nat.pow_le_pow_right (by decide) (by omega))
      rw [if_neg (show ¬ (9 : Int32) ≤ nI i from nI_ltc hi (by decide)), xgd_pos (vi_ hi (by decide)), cl_ (by omega), h i hi]
      unfold fT_heldPapers_26
      have w0 : fE_with (nI (sO (heldP y1) i)) (nI i) 0 = some (nI (wit (sO (heldP y1) i) i false)) := xE_with (z := false) hlt (by omega)
      have w1 : fE_with (nI (sO (heldP y1) i)) (nI i) 1 = some (nI (wit (sO (heldP y1) i) i true)) := xE_with (z := true) hlt (by omega)
      rw [w0, w1, xbd_eq, xbd_eq, xlt_eq, xlt_eq, nI_1]
      show _ = some (Sum.inr (nI (wit (sO (heldP y1) i) i (heldP y1 i)), _))
      unfold heldP
      by_cases e : y1 i ≤ 0
      · rw [if_pos e, decide_eq_true e]; rfl
      · rw [if_neg e, decide_eq_false e]; rfl
    · dsimp only [bT_heldPapers_4, gT_heldPapers_4]; exact if_pos (Int32.le_refl (nI 9))
  unfold fT_heldPapers
  show xbd (xlp _ (nI (sO (heldP y1) 0), 0)) _ = _
  rw [hr, xbd_eq]; rfl
theorem heldS_lt (y1 : Nat → Int32) : heldS y1 < 2 ^ 9 := sO_lt _ 9
/-! ===== count ===== -/
def posP (y : Nat → Int32) : Nat → Bool := fun k => !decide (y k ≤ 0)
theorem cntI_step {P : Nat → Bool} {i : Nat} : nI (cnt P (i + 1)) = if P i = true then nI (cnt P i) + 1 else nI (cnt P i) := by
  cases h : P i with
  | false => rw [if_neg (by decide), ← cntI_f h]
  | true => rw [if_pos rfl, cntI_t h]
theorem c0_M (Y : Mem) : xlp (bM_count_24 Y) (0, 0) = some (nI (cnt (heldP (Y 1)) 9), nI 9) := by
  refine run2 (n := 9) (fun i => nI (cnt (heldP (Y 1)) i)) (fun i hi => ?_) ?_
  · dsimp only [bM_count_24, gM_count_24]
    unfold fM_count_46
    rw [if_neg (show ¬ (9 : Int32) ≤ nI i from nI_ltc hi (by decide)), xgd_pos (vi_ hi (by decide)), cl_ (by omega), xlt_eq, xlt_eq, nI_1 i, cntI_step]
    unfold heldP
    by_cases e : Y 1 i ≤ 0
    · rw [if_pos e, if_neg (by simp [e])]
    · rw [if_neg e, if_pos (by simp [e])]
  · dsimp only [bM_count_24, gM_count_24]; exact if_pos (Int32.le_refl (nI 9))
theorem c1_M (Y : Mem) : xlp (bM_count_63 Y) (0, 0) = some (nI (cnt (fun k => bq (Y 4 k)) 360), nI 360) := by
  refine run2 (n := 360) (fun i => nI (cnt (fun k => bq (Y 4 k)) i)) (fun i hi => ?_) ?_
  · dsimp only [bM_count_63, gM_count_63]
    unfold fM_count_86
    rw [if_neg (show ¬ (360 : Int32) ≤ nI i from nI_ltc hi (by decide)), xgd_pos (vi_ hi (by decide)), cl_ (by omega), xlt_eq, xlt_eq, nI_1 i, cntI_step]
    by_cases e : Y 4 i = 0
    · rw [if_pos e, if_neg (by rw [bq_f.mpr e]; decide)]
    · rw [if_neg e, if_pos (bq_t.mpr e)]
  · dsimp only [bM_count_63, gM_count_63]; exact if_pos (Int32.le_refl (nI 360))
theorem c3_M (Y : Mem) : xlp (bM_count_116 Y) (0, 0) = some (nI (cnt (posP (Y 17)) 864), nI 864) := by
  refine run2 (n := 864) (fun i => nI (cnt (posP (Y 17)) i)) (fun i hi => ?_) ?_
  · dsimp only [bM_count_116, gM_count_116]
    unfold fM_count_139
    rw [if_neg (show ¬ (864 : Int32) ≤ nI i from nI_ltc hi (by decide)), xgd_pos (vi_ hi (by decide)), cl_ (by omega), xlt_eq, xlt_eq, nI_1 i, cntI_step]
    unfold posP
    by_cases e : Y 17 i ≤ 0
    · rw [if_pos e, if_neg (by simp [e])]
    · rw [if_neg e, if_pos (by simp [e])]
  · dsimp only [bM_count_116, gM_count_116]; exact if_pos (Int32.le_refl (nI 864))
theorem c4_M (Y : Mem) : xlp (bM_count_151 Y) (0, 0) = some (nI (cnt (fun k => bq (Y 21 k)) 240), nI 240) := by
  refine run2 (n := 240) (fun i => nI (cnt (fun k => bq (Y 21 k)) i)) (fun i hi => ?_) ?_
  · dsimp only [bM_count_151, gM_count_151]
    unfold fM_count_174
    rw [if_neg (show ¬ (240 : Int32) ≤ nI i from nI_ltc hi (by decide)), xgd_pos (vi_ hi (by decide)), cl_ (by omega), xlt_eq, xlt_eq, nI_1 i, cntI_step]
    by_cases e : Y 21 i = 0
    · rw [if_pos e, if_neg (by rw [bq_f.mpr e]; decide)]
    · rw [if_neg e, if_pos (bq_t.mpr e)]
  · dsimp only [bM_count_151, gM_count_151]; exact if_pos (Int32.le_refl (nI 240))
theorem c2_M (Y : Mem) : fM_used Y = some (nI (usd (Y 0 7) (Y 7))) := by
  have inner : ∀ (v1 : Int32) (s : Nat), s < 6 → xlp (bM_used_15 v1 (nI s) Y) (0, 0) = some (bz (anyB (fun p => bq (Y 0 7) && decide (Y 7 p = nI s)) 9), nI 9) := by
    intro v1 s hs
    have hr := run2 (b := bM_used_15 v1 (nI s) Y) (n := 9) (fun i => bz (anyB (fun p => bq (Y 0 7) && decide (Y 7 p = nI s)) i)) (fun i hi => ?_) ?_
    · exact hr
    · dsimp only [bM_used_15, gM_used_15]
      unfold fM_used_48 fM_used_44 fM_used_49
      rw [if_neg (show ¬ (9 : Int32) ≤ nI i from nI_ltc hi (by decide)), xgd_pos (vi_ hi (by decide)), cl_ (by omega), xlt_eq, xlt_eq, nI_1]
      show _ = some (Sum.inr (bz (anyB (fun p => bq (Y 0 7) && decide (Y 7 p = nI s)) i || (bq (Y 0 7) && decide (Y 7 i = nI s))), nI (i + 1)))
      cases ha : anyB (fun p => bq (Y 0 7) && decide (Y 7 p = nI s)) i with
      | true => rw [if_neg (by decide)]; rfl
      | false =>
        rw [if_pos (by decide)]
        by_cases e : Y 0 7 = 0
        · rw [if_pos e, e, bq_0]; rfl
        · rw [if_neg e, bq_t.mpr e]
          by_cases e2 : Y 7 i = nI s
          · rw [if_pos e2, decide_eq_true e2]; rfl
          · rw [if_neg e2, decide_eq_false e2]; rfl
    · dsimp only [bM_used_15, gM_used_15]; exact if_pos (Int32.le_refl (nI 9))
  have hr : xlp (bM_used_4 Y) (0, 0) = some (nI (usd (Y 0 7) (Y 7)), nI 6) := by
    refine run2 (n := 6) (fun i => nI (cnt (fun s => anyB (fun p => bq (Y 0 7) && decide (Y 7 p = nI s)) 9) i)) (fun i hi => ?_) ?_
    · dsimp only [bM_used_4, gM_used_4]
      rw [if_neg (show ¬ (6 : Int32) ≤ nI i from nI_ltc hi (by decide)), inner _ i hi, xbd_eq]
      unfold fM_used_56 fM_used_67
      rw [xlt_eq, xlt_eq, nI_1 i, cntI_step]
      cases anyB (fun p => bq (Y 0 7) && decide (Y 7 p = nI i)) 9 with
      | false => rw [if_pos (by decide), if_neg (by decide)]
      | true => rw [if_neg (by decide), if_pos (by decide)]
    · dsimp only [bM_used_4, gM_used_4]; exact if_pos (Int32.le_refl (nI 6))
  unfold fM_used
  rw [hr, xbd_eq]; rfl
theorem c1_X {X Y : Mem} (h3 : r3 (X 4) (Y 4)) : fT_enrolments X = some (nI (cnt (fun k => bq (Y 4 k)) 360)) := by
  have hr : xlp (bT_enrolments_4 X) (0, 0) = some (nI (sm (fun c => cnt (fun p => bq (Y 4 (9 * c + p))) 9) 40), nI 40) := by
    refine run2 (n := 40) (fun i => nI (sm (fun c => cnt (fun p => bq (Y 4 (9 * c + p))) 9) i)) (fun i hi => ?_) ?_
    · dsimp only [bT_enrolments_4, gT_enrolments_4]
      rw [if_neg (show ¬ (40 : Int32) ≤ nI i from nI_ltc hi (by decide)), xgd_pos (vi_ hi (by decide)), cl_ (by omega), h3.1 i hi, xJ_bit (Nat.lt_of_lt_of_le (eY_lt9 _ _) (by decide)), xbd_eq, xlt_eq, xlt_eq, nI_1, nI_add]
      unfold eY
      rw [pop_sO _ (by decide)]
      rfl
    · dsimp only [bT_enrolments_4, gT_enrolments_4]; exact if_pos (Int32.le_refl (nI 40))
  unfold fT_enrolments
  rw [hr, xbd_eq, show (360 : Nat) = 9 * 40 from rfl, cnt_blk]; rfl
def sitP (q : Nat → Nat → Nat) (s r : Nat) : Nat → Bool := fun k => decide (q s (36 * r + k) ≠ 0)
theorem xR_sitters {X : Mem} {q pa : Nat → Nat → Nat} (h : qC X q pa) {s r : Nat} (hs : s < 6) (hr : r < 4) : fR_sittersIn (nI s) (nI r) X = some (nI (cnt (sitP q s r) 36)) := by
  have hrun : xlp (bR_sittersIn_8 (nI s) (nI r) X) (nI (cnt (sitP q s r) 0), nI (36 * r)) = some (nI (cnt (sitP q s r) 36), nI (36 * r + 36)) := by
    refine runA (n := 36) (36 * r) (fun i => nI (cnt (sitP q s r) i)) (fun i hi => ?_) ?_
    · dsimp only [bR_sittersIn_8, gR_sittersIn_8]
      have hk : 36 * r + i < 144 := by omega
      obtain ⟨g1, g2, -, -⟩ := (h s hs).1 _ hk
      rw [seg_at _ hs] at g2
      rw [nI_1 r, show nI (r + 1) * 36 = nI (36 * r + 36) by show nI (r + 1) * nI 36 = _; rw [pk_mul]; congr 1; omega, if_neg (nI_ltc (show 36 * r + i < 36 * r + 36 by omega) (by omega)), xgd_pos (vi_ hs (by decide)), xgd_pos (vi_ hk (by decide)), cl_ (show s < 100000 by omega), cl_ (show 36 * r + i < 100000 by omega), show (23 : Nat) + 1 + s = 24 + s by omega, g2]
      unfold fR_sittersIn_35
      rw [xlt_eq, xlt_eq, xlt_eq, nI_1 (36 * r + i), cntI_step]
      unfold sitP
      cases hq : q s (36 * r + i) with
      | zero => rw [if_pos sit0, if_neg (by simp)]; rfl
      | succ c => rw [sit1, if_neg (nIm1 (by omega)), if_pos (by simp)]; rfl
    · dsimp only [bR_sittersIn_8, gR_sittersIn_8]
      rw [nI_1 r, show nI (r + 1) * 36 = nI (36 * r + 36) by show nI (r + 1) * nI 36 = _; rw [pk_mul]; congr 1; omega]
      exact if_pos (Int32.le_refl _)
  unfold fR_sittersIn
  rw [xlt_eq, show nI r * 36 = nI (36 * r) by show nI r * nI 36 = _; rw [pk_mul]; congr 1; omega]
  show xbd (xlp _ (nI (cnt (sitP q s r) 0), _)) _ = _
  rw [hrun, xbd_eq]; rfl
theorem c3_X {X Y : Mem} {q pa : Nat → Nat → Nat} (hS : qS X Y q pa) : fR_seatsTaken X = some (nI (cnt (posP (Y 17)) 864)) := by
  have inner : ∀ (s a : Nat), s < 6 → xlp (bR_seatsTaken_12 (nI s) X) (nI a, 0) = some (nI (a + sm (fun r => cnt (sitP q s r) 36) 4), nI 4) := by
    intro s a hs
    refine run2 (n := 4) (fun i => nI (a + sm (fun r => cnt (sitP q s r) 36) i)) (fun i hi => ?_) ?_
    · dsimp only [bR_seatsTaken_12, gR_seatsTaken_12]
      rw [if_neg (show ¬ (4 : Int32) ≤ nI i from nI_ltc hi (by decide)), xR_sitters hS.1 hs hi, xbd_eq, xlt_eq, xlt_eq, nI_1, nI_add]
      rw [Nat.add_assoc]; rfl
    · dsimp only [bR_seatsTaken_12, gR_seatsTaken_12]; exact if_pos (Int32.le_refl (nI 4))
  have hr : xlp (bR_seatsTaken_4 X) (0, 0) = some (nI (sm (fun s => sm (fun r => cnt (sitP q s r) 36) 4) 6), nI 6) := by
    refine run2 (n := 6) (fun i => nI (sm (fun s => sm (fun r => cnt (sitP q s r) 36) 4) i)) (fun i hi => ?_) ?_
    · dsimp only [bR_seatsTaken_4, gR_seatsTaken_4]
      rw [if_neg (show ¬ (6 : Int32) ≤ nI i from nI_ltc hi (by decide)), inner i _ hi, xbd_eq]
      unfold fR_seatsTaken_32
      rw [xlt_eq, nI_1]; rfl
    · dsimp only [bR_seatsTaken_4, gR_seatsTaken_4]; exact if_pos (Int32.le_refl (nI 6))
  unfold fR_seatsTaken
  rw [hr, xbd_eq]
  unfold fR_seatsTaken_38
  rw [show (864 : Nat) = 144 * 6 from rfl, cnt_blk]
  refine congrArg (fun z => some (nI z)) (sm_ext (fun s hs => ?_))
  rw [show (144 : Nat) = 36 * 4 from rfl, cnt_blk]
  refine sm_ext (fun r hr => cnt_ext (fun k hk => ?_))
  have h1 := (hS.2 s (36 * r + k) hs (by omega)).1
  have h2 := ((hS.1 s hs).1 (36 * r + k) (by omega)).1
  unfold sitP posP
  rw [show 36 * 4 * s + (36 * r + k) = 144 * s + (36 * r + k) by omega, h1]
  by_cases e : q s (36 * r + k) = 0
  · rw [e]; decide
  · rw [decide_eq_true e, decide_eq_false (nI_nle (by omega) (by omega))]; rfl
theorem ix40 (s r i : Nat) : (40 : Int32) * nI s + (10 : Int32) * nI r + nI i = nI (40 * s + 10 * r + i) := by
  show nI 40 * nI s + nI 10 * nI r + nI i = _
  rw [pk_mul, pk_mul, nI_add, nI_add]
theorem wY_lt (y : Nat → Int32) (s r : Nat) : wY y s r < 2 ^ 10 := sO_lt _ 10
theorem wY_bit (y : Nat → Int32) (s r : Nat) {i : Nat} (hi : i < 10) : (wY y s r).testBit i = bq (y (40 * s + 10 * r + i)) := by
  unfold wY; rw [sO_bit]; simp [hi]
theorem c4_X {X Y : Mem} (hW : qW X Y) : fO_watches X = some (nI (cnt (fun k => bq (Y 21 k)) 240)) := by
  have inner : ∀ (s a : Nat), s < 6 → xlp (bO_watches_12 (nI s) X) (nI a, 0) = some (nI (a + sm (fun r => cnt (fun i => bq (Y 21 (40 * s + 10 * r + i))) 10) 4), nI 4) := by
    intro s a hs
    refine run2 (n := 4) (fun i => nI (a + sm (fun r => cnt (fun i => bq (Y 21 (40 * s + 10 * r + i))) 10) i)) (fun i hi => ?_) ?_
    · dsimp only [bO_watches_12, gO_watches_12]
      have g := hW.1 s i hs hi
      rw [seg_at _ hs] at g
      rw [if_neg (show ¬ (4 : Int32) ≤ nI i from nI_ltc hi (by decide)), xgd_pos (vi_ hs (by decide)), xgd_pos (vi_ hi (by decide)), cl_ (show s < 100000 by omega), cl_ (show i < 100000 by omega), show (47 : Nat) + 1 + s = 48 + s by omega, g, xJ_bit (wY_lt _ _ _), xbd_eq, xlt_eq, xlt_eq, nI_1, nI_add]
      unfold wY
      rw [pop_sO _ (by decide)]
      rw [Nat.add_assoc]; rfl
    · dsimp only [bO_watches_12, gO_watches_12]; exact if_pos (Int32.le_refl (nI 4))
  have hr : xlp (bO_watches_4 X) (0, 0) = some (nI (sm (fun s => sm (fun r => cnt (fun i => bq (Y 21 (40 * s + 10 * r + i))) 10) 4) 6), nI 6) := by
    refine run2 (n := 6) (fun i => nI (sm (fun s => sm (fun r => cnt (fun i => bq (Y 21 (40 * s + 10 * r + i))) 10) 4) i)) (fun i hi => ?_) ?_
    · dsimp only [bO_watches_4, gO_watches_4]
      rw [if_neg (show ¬ (6 : Int32) ≤ nI i from nI_ltc hi (by decide)), inner i _ hi, xbd_eq]
      unfold fO_watches_37
      rw [xlt_eq, nI_1]; rfl
    · dsimp only [bO_watches_4, gO_watches_4]; exact if_pos (Int32.le_refl (nI 6))
  unfold fO_watches
  rw [hr, xbd_eq]
  unfold fO_watches_43
  rw [show (240 : Nat) = 40 * 6 from rfl, cnt_blk]
  refine congrArg (fun z => some (nI z)) (sm_ext (fun s hs => ?_))
  rw [show (40 : Nat) = 10 * 4 from rfl, cnt_blk]
  refine sm_ext (fun r hr => cnt_ext (fun k hk => ?_))
  rw [show 10 * 4 * s + (10 * r + k) = 10 * 4 * s + 10 * r + k by omega]
theorem sim_20 : Sm20 Rel := by
  intro X Y h a1
  rcases uu_ix a1 (n := 4) (by decide) with h1 | ⟨w, hw, rfl⟩
  · have h0 : ∀ n, n ≤ 4 → ¬ a1 = nI n := by
      rintro n hn rfl
      rcases h1 with h1 | h1
      · exact nI_pos (by omega) h1
      · exact nI_nlt (a := 4) hn (by decide) h1
    refine Or.inr ⟨0, up2 Y 0 0 1, ?_, ?_, up2_at _ _ _ _, Rel_t h⟩
    · unfold kE_count
      rw [if_neg (show ¬ a1 = 0 from h0 0 (by decide)), if_neg (show ¬ a1 = 1 from h0 1 (by decide)), if_neg (show ¬ a1 = 2 from h0 2 (by decide)), if_neg (show ¬ a1 = 3 from h0 3 (by decide)), if_neg (show ¬ a1 = 4 from h0 4 (by decide))]
    · unfold fM_count; rw [show fM_within a1 0 4 = some 0 from wM_out h1, xbd_eq, g0, xbd_eq, if_pos rfl]
  · have hwi : fM_within (nI w) 0 4 = some 1 := wM_in hw (by decide)
    obtain ⟨q, pa, hT, hP, hB, hS, hO, hW, h16⟩ := id h
    have go : ∀ n, fE_count (nI w) X = some n → (fM_count (nI w) Y = some (n, up2 Y 0 0 0)) → simR1 Rel (fE_count (nI w)) (kE_count (nI w)) 2 (fM_count (nI w)) X Y := fun n e1 e2 => Or.inl ⟨n, up2 Y 0 0 0, e1, e2, up2_at _ _ _ _, Rel_t h⟩
    rcases (show w = 0 ∨ w = 1 ∨ w = 2 ∨ w = 3 ∨ w = 4 by omega) with rfl | rfl | rfl | rfl | rfl
    · refine go (nI (cnt (heldP (Y 1)) 9)) ?_ ?_
      · unfold fE_count; rw [if_pos (show nI 0 = (0 : Int32) from rfl), xT_held (y1 := Y 1) (fun p hp => (hT.1 p hp).1), xbd_eq, xJ_bit (Nat.lt_of_lt_of_le (heldS_lt _) (by decide)), xbd_eq]
        unfold heldS; rw [pop_sO _ (by decide)]
      · unfold fM_count; rw [hwi, xbd_eq, g11, xbd_eq, if_neg n10, if_pos (show nI 0 = (0 : Int32) from rfl), c0_M, xbd_eq]; rfl
    · refine go (nI (cnt (fun k => bq (Y 4 k)) 360)) ?_ ?_
      · unfold fE_count; rw [if_neg (show ¬ nI 1 = (0 : Int32) by decide), if_pos (show nI 1 = (1 : Int32) from rfl), c1_X hT.2.2.1, xbd_eq]
      · unfold fM_count; rw [hwi, xbd_eq, g11, xbd_eq, if_neg n10, if_neg (show ¬ nI 1 = (0 : Int32) by decide), if_pos (show nI 1 = (1 : Int32) from rfl), c1_M, xbd_eq]; rfl
    · refine go (nI (usd (Y 0 7) (Y 7))) ?_ ?_
      · unfold fE_count; rw [if_neg (show ¬ nI 2 = (0 : Int32) by decide), if_neg (show ¬ nI 2 = (1 : Int32) by decide), if_pos (show nI 2 = (2 : Int32) from rfl), hP.1.2.2.1]
      · unfold fM_count; rw [hwi, xbd_eq, g11, xbd_eq, if_neg n10, if_neg (show ¬ nI 2 = (0 : Int32) by decide), if_neg (show ¬ nI 2 = (1 : Int32) by decide), if_pos (show nI 2 = (2 : Int32) from rfl), c2_M, xbd_eq]; rfl
    · refine go (nI (cnt (posP (Y 17)) 864)) ?_ ?_
      · unfold fE_count; rw [if_neg (show ¬ nI 3 = (0 : Int32) by decide), if_neg (show ¬ nI 3 = (1 : Int32) by decide), if_neg (show ¬ nI 3 = (2 : Int32) by decide), if_pos (show nI 3 = (3 : Int32) from rfl), c3_X hS, xbd_eq]
      · unfold fM_count; rw [hwi, xbd_eq, g11, xbd_eq, if_neg n10, if_neg (show ¬ nI 3 = (0 : Int32) by decide), if_neg (show ¬ nI 3 = (1 : Int32) by decide), if_neg (show ¬ nI 3 = (2 : Int32) by decide), if_pos (show nI 3 = (3 : Int32) from rfl), c3_M, xbd_eq]; rfl
    · refine go (nI (cnt (fun k => bq (Y 21 k)) 240)) ?_ ?_
      · unfold fE_count; rw [if_neg (show ¬ nI 4 = (0 : Int32) by decide), if_neg (show ¬ nI 4 = (1 : Int32) by decide), if_neg (show ¬ nI 4 = (2 : Int32) by decide), if_neg (show ¬ nI 4 = (3 : Int32) by decide), if_pos (show nI 4 = (4 : Int32) from rfl), c4_X hW, xbd_eq]
      · unfold fM_count; rw [hwi, xbd_eq, g11, xbd_eq, if_neg n10, if_neg (show ¬ nI 4 = (0 : Int32) by decide), if_neg (show ¬ nI 4 = (1 : Int32) by decide), if_neg (show ¬ nI 4 = (2 : Int32) by decide), if_neg (show ¬ nI 4 = (3 : Int32) by decide), c4_M, xbd_eq]; rfl
