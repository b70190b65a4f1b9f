/-! ===== the class's planner ===== -/
def fitP (y1 y2 y3 : Nat → Int32) (s : Nat) : Nat → Bool := fun p => heldP y1 p && !((!decide (y3 p = -1) && !decide (y3 p = nI s)) || !decide (y1 p ≤ y2 s))
def fitS (y1 y2 y3 : Nat → Int32) (s : Nat) : Nat := sO (fitP y1 y2 y3 s) 9
def foeS (y4 y6 : Nat → Int32) (p : Nat) : Nat := wit (sO (fun a => bq (y6 (81 * 1 + 9 * a + p)) || anyB (bothP y4 p a) 40) 9) p false
def matS (y1 y6 : Nat → Int32) (p : Nat) : Nat := rY y6 0 p &&& heldS y1
def befS (y1 y6 : Nat → Int32) (p : Nat) : Nat := rY y6 2 p &&& heldS y1
def orT (f : Nat → Nat) (x : Nat) : Nat := sO (fun i => anyB (fun p => x.testBit p && (f p).testBit i) 9) 9
def mtB (y1 y4 y6 : Nat → Int32) (x : Nat) : Bool := decide (orT (foeS y4 y6) x &&& x = 0) && decide (nd (orT (matS y1 y6) x) x = 0)
def rdy (y1 y6 : Nat → Int32) (P : Nat) : Nat := sO (fun p => decide (nd (befS y1 y6 p) P = 0)) 9
def chS (y1 y2 y3 y6 : Nat → Int32) (s P : Nat) : Nat := nd (fitS y1 y2 y3 s) P &&& rdy y1 y6 P
theorem foeS_lt (y4 y6 : Nat → Int32) {p : Nat} (hp : p < 9) : foeS y4 y6 p < 2 ^ 9 := wit_lt (sO_lt _ 9) hp
theorem matS_lt (y1 y6 : Nat → Int32) (p : Nat) : matS y1 y6 p < 2 ^ 9 := Nat.lt_of_le_of_lt Nat.and_le_left (rY_lt9 _ _ _)
theorem befS_lt (y1 y6 : Nat → Int32) (p : Nat) : befS y1 y6 p < 2 ^ 9 := Nat.lt_of_le_of_lt Nat.and_le_left (rY_lt9 _ _ _)
theorem orT_lt (f : Nat → Nat) (x : Nat) : orT f x < 2 ^ 9 := sO_lt _ 9
theorem orT_0 (f : Nat → Nat) : orT f 0 = 0 := sO_z (fun i _ => by
  rw [Bool.eq_false_iff]; intro e
  obtain ⟨p, -, h⟩ := anyB_t.mp e
  rw [Nat.zero_testBit] at h; cases h)
theorem orT_s {f : Nat → Nat} {x p : Nat} (hp : p < 9) (hf : f p < 2 ^ 9) : orT f (x ||| 2 ^ p) = orT f x ||| f p := by
  refine bits_eq (k := 9) (orT_lt _ _) (Nat.or_lt_two_pow (orT_lt _ _) hf) (fun i hi => ?_)
  unfold orT
  rw [Nat.testBit_or, sO_bit, sO_bit, decide_eq_true hi, Bool.true_and, Bool.true_and]
  rw [show anyB (fun p_1 => (x ||| 2 ^ p).testBit p_1 && (f p_1).testBit i) 9 = (anyB (fun r => x.testBit r && (f r).testBit i) 9 || anyB (fun r => (2 ^ p).testBit r && (f r).testBit i) 9) by
    rw [← anyB_or]; exact anyB_ext (fun r _ => by rw [Nat.testBit_or])]
  congr 1
  cases hb : (f p).testBit i with
  | true => exact anyB_t.mpr ⟨p, hp, by rw [hb, Nat.testBit_two_pow]; simp⟩
  | false =>
    rw [Bool.eq_false_iff]; intro e
    obtain ⟨r, -, h⟩ := anyB_t.mp e
    rw [Nat.testBit_two_pow, Bool.and_eq_true, decide_eq_true_eq] at h
    obtain ⟨rfl, h⟩ := h
    rw [hb] at h; cases h
theorem or_pow {x p : Nat} (h : x < 2 ^ p) : x ||| 2 ^ p = 2 ^ p + x := by
  rw [Nat.or_comm]; exact (Nat.two_pow_add_eq_or_of_lt h 1 |> fun e => by simpa using e.symm)
theorem xT_fit {X Y : Mem} (hT : qT X Y) {s : Nat} (hs : s < 6) : fT_papersFitting (nI s) X = some (nI (fitS (Y 1) (Y 2) (Y 3) s)) := by
  have hr : xlp (bT_papersFitting_7 (nI s) X) (nI (sO (fun i => if i < 0 then fitP (Y 1) (Y 2) (Y 3) s i else heldP (Y 1) i) 9), 0) = some (nI (sO (fun i => if i < 9 then fitP (Y 1) (Y 2) (Y 3) s i else heldP (Y 1) i) 9), nI 9) := by
    refine run2 (n := 9) (fun n => nI (sO (fun i => if i < n then fitP (Y 1) (Y 2) (Y 3) s i else heldP (Y 1) i) 9)) (fun p hp => ?_) ?_
    · dsimp only [bT_papersFitting_7, gT_papersFitting_7]
      have hlt : sO (fun i => if i < p then fitP (Y 1) (Y 2) (Y 3) s i else heldP (Y 1) i) 9 < 2 ^ 31 := Nat.lt_trans (sO_lt _ 9) (by decide)
      have w0 : fE_with (nI (sO (fun i => if i < p then fitP (Y 1) (Y 2) (Y 3) s i else heldP (Y 1) i) 9)) (nI p) 0 = some (nI (wit (sO (fun i => if i < p then fitP (Y 1) (Y 2) (Y 3) s i else heldP (Y 1) i) 9) p false)) := xE_with (z := false) hlt (by omega)
      unfold fT_papersFitting_37 fT_papersFitting_38 fT_papersFitting_60 fT_papersFitting_67
      rw [if_neg (show ¬ (9 : Int32) ≤ nI p from nI_ltc hp (by decide)), w0]
      simp only [xgd_pos (vi_ hp (show 9 < 100000 by decide)), xgd_pos (vi_ hs (show 6 < 100000 by decide)), cl_ (show p < 100000 by omega), cl_ (show s < 100000 by omega), (hT.1 p hp).1, (hT.2.1 s hs).1, (hT.2.2.2.2.2 p hp).1, xbd_eq, xlt_eq, nI_1]
      have rem : fitP (Y 1) (Y 2) (Y 3) s p = false → nI (wit (sO (fun i => if i < p then fitP (Y 1) (Y 2) (Y 3) s i else heldP (Y 1) i) 9) p false) = nI (sO (fun i => if i < p + 1 then fitP (Y 1) (Y 2) (Y 3) s i else heldP (Y 1) i) 9) := fun hf => congrArg nI (bits_eq (k := 9) (wit_lt (sO_lt _ 9) hp) (sO_lt _ 9) (fun i hi => by
        rw [wit_bit, sO_bit, sO_bit, decide_eq_true hi, Bool.true_and, Bool.true_and]
        by_cases e : i = p
        · subst e; rw [if_pos rfl, if_pos (by omega), hf]
        · rw [if_neg e]
          by_cases c : i < p
          · rw [if_pos c, if_pos (by omega)]
          · rw [if_neg c, if_neg (by omega)]))
      have keep : fitP (Y 1) (Y 2) (Y 3) s p = heldP (Y 1) p → nI (sO (fun i => if i < p then fitP (Y 1) (Y 2) (Y 3) s i else heldP (Y 1) i) 9) = nI (sO (fun i => if i < p + 1 then fitP (Y 1) (Y 2) (Y 3) s i else heldP (Y 1) i) 9) := fun hf => congrArg nI (sO_ext (fun i hi => by
        by_cases e : i = p
        · subst e; rw [if_neg (by omega), if_pos (by omega), hf]
        · by_cases c : i < p
          · rw [if_pos c, if_pos (by omega)]
          · rw [if_neg c, if_neg (by omega)]))
      by_cases e1 : Y 3 p = -1
      · rw [if_pos e1, if_pos trivial]
        by_cases e2 : Y 1 p ≤ Y 2 s
        · rw [if_pos e2, keep (by unfold fitP; simp [e1, e2])]
        · rw [if_neg e2, rem (by unfold fitP; simp [e2])]
      · rw [if_neg e1]
        by_cases e3 : Y 3 p = nI s
        · rw [if_pos e3, if_pos trivial]
          by_cases e2 : Y 1 p ≤ Y 2 s
          · rw [if_pos e2, keep (by unfold fitP; simp [e3, e2])]
          · rw [if_neg e2, rem (by unfold fitP; simp [e2])]
        · rw [if_neg e3, if_neg n10, rem (by unfold fitP; simp [e1, e3])]
    · dsimp only [bT_papersFitting_7, gT_papersFitting_7]; exact if_pos (Int32.le_refl (nI 9))
  unfold fT_papersFitting
  rw [xT_held (y1 := Y 1) (fun p hp => (hT.1 p hp).1), xbd_eq]
  rw [show sO (fun i => if i < 0 then fitP (Y 1) (Y 2) (Y 3) s i else heldP (Y 1) i) 9 = heldS (Y 1) from sO_ext (fun i _ => if_neg (Nat.not_lt_zero i))] at hr
  rw [hr, xbd_eq]
  unfold fT_papersFitting_73 fitS
  exact congrArg (fun z => some (nI z)) (sO_ext (fun i hi => if_pos hi))
theorem xT_foes {X Y : Mem} (hT : qT X Y) {p : Nat} (hp : p < 9) : fT_foesOf (nI p) X = some (nI (foeS (Y 4) (Y 6) p)) := by
  have h3 := hT.2.2.1
  have hr : xlp (bT_foesOf_11 (nI p) X) (nI (sO (fun a => bq (Y 6 (81 * 1 + 9 * a + p)) || anyB (bothP (Y 4) p a) 0) 9), 0) = some (nI (sO (fun a => bq (Y 6 (81 * 1 + 9 * a + p)) || anyB (bothP (Y 4) p a) 40) 9), nI 40) := by
    refine run2 (n := 40) (fun n => nI (sO (fun a => bq (Y 6 (81 * 1 + 9 * a + p)) || anyB (bothP (Y 4) p a) n) 9)) (fun c hc => ?_) ?_
    · dsimp only [bT_foesOf_11, gT_foesOf_11]
      unfold fT_foesOf_39
      rw [if_neg (show ¬ (40 : Int32) ≤ nI c from nI_ltc hc (by decide))]
      simp only [xgd_pos (vi_ hc (show 40 < 100000 by decide)), cl_ (show c < 100000 by omega), h3.1 c hc, xE_has (eY_lt (Y 4) c) (show p < 31 by omega), xbd_eq, eY_bit (Y 4) c hp, xlt_eq, nI_1, bz_0, nI_or]
      cases hb : bq (Y 4 (9 * c + p)) with
      | false =>
        rw [if_pos rfl]
        congr 3
        refine congrArg nI (sO_ext (fun a ha => ?_))
        show _ = (_ || (anyB (bothP (Y 4) p a) c || bothP (Y 4) p a c))
        rw [show bothP (Y 4) p a c = false by unfold bothP; rw [hb]; rfl, Bool.or_false]
      | true =>
        rw [if_neg (by decide)]
        congr 3
        refine congrArg nI (bits_eq (k := 9) (Nat.or_lt_two_pow (sO_lt _ 9) (eY_lt9 _ _)) (sO_lt _ 9) (fun a ha => ?_))
        rw [Nat.testBit_or, sO_bit, sO_bit, eY_bit _ _ ha, decide_eq_true ha, Bool.true_and, Bool.true_and]
        show _ = (_ || (anyB (bothP (Y 4) p a) c || bothP (Y 4) p a c))
        rw [show bothP (Y 4) p a c = bq (Y 4 (9 * c + a)) by unfold bothP; rw [hb]; rfl, Bool.or_assoc]
    · dsimp only [bT_foesOf_11, gT_foesOf_11]; exact if_pos (Int32.le_refl (nI 40))
  unfold fT_foesOf
  rw [xgd_pos (show vp_in 1 3 from vi_ (j := 1) (by decide) (by decide)), xgd_pos (vi_ hp (by decide)), xlt_eq, cl_ (by omega)]
  have e8 : X (6 + 1 + (1 : Int32).toNatClampNeg) p = nI (rY (Y 6) 1 p) := r5_at (X := X) hT.2.2.2.2.1 (k := 1) (by decide) hp
  rw [e8]
  rw [show sO (fun a => bq (Y 6 (81 * 1 + 9 * a + p)) || anyB (bothP (Y 4) p a) 0) 9 = rY (Y 6) 1 p from sO_ext (fun a _ => Bool.or_false _)] at hr
  rw [hr, xbd_eq]
  unfold fT_foesOf_45
  have w0 : fE_with (nI (sO (fun a => bq (Y 6 (81 * 1 + 9 * a + p)) || anyB (bothP (Y 4) p a) 40) 9)) (nI p) 0 = some (nI (foeS (Y 4) (Y 6) p)) := xE_with (z := false) (Nat.lt_trans (sO_lt _ 9) (by decide)) (by omega)
  rw [w0, xbd_eq]
/-- what the planner's tables hold -/
def tbX (Y : Mem) (n : Nat) (M : Mem) : Prop := (∀ x, x < n → M 15 x = nI (orT (foeS (Y 4) (Y 6)) x)) ∧ (∀ x, x < n → M 16 x = nI (orT (matS (Y 1) (Y 6)) x))
theorem xP_gather {X Y : Mem} (hT : qT X Y) (h15 : X 15 0 = 0) (h16 : X 16 0 = 0) (hh : X 12 5 = nI (heldS (Y 1))) : ∃ M', fP_gatherRules X = some M' ∧ tbX Y 512 M' ∧ (∀ p, p < 9 → M' 17 p = nI (befS (Y 1) (Y 6) p)) ∧ (∀ j, j ≠ 15 → j ≠ 16 → j ≠ 17 → M' j = X j) := by
  have inner : ∀ (p : Nat) (N : Mem), p < 9 → tbX Y (2 ^ p) N → ∃ v N', xlp (bP_gatherRules_51 (nI p) (nI (foeS (Y 4) (Y 6) p)) (nI (matS (Y 1) (Y 6) p))) (0, N) = some (v, N') ∧ tbX Y (2 ^ (p + 1)) N' ∧ (∀ j, j ≠ 15 → j ≠ 16 → N' j = N j) := by
    intro p N hp hN
    have hpw : 2 ^ p ≤ 256 := Nat.pow_le_pow_right (n := 2) (by decide) (show p ≤ 8 by omega)
    have h := xlp_inv (b := bP_gatherRules_51 (nI p) (nI (foeS (Y 4) (Y 6) p)) (nI (matS (Y 1) (Y 6) p))) (fun t (st : Int32 × Mem) => ∃ L, st = (nI t, L) ∧ tbX Y (2 ^ p + t) L ∧ (∀ j, j ≠ 15 → j ≠ 16 → L j = N j)) (fun t => ∃ v L, t = (v, L) ∧ tbX Y (2 ^ (p + 1)) L ∧ (∀ j, j ≠ 15 → j ≠ 16 → L j = N j)) (2 ^ p) ?_ (0, N) ⟨N, rfl, hN, fun _ _ _ => rfl⟩
    · obtain ⟨t, t1, v, L, rfl, t2⟩ := h
      exact ⟨v, L, t1, t2⟩
    · rintro t st ht ⟨L, rfl, hL, hf⟩
      dsimp only [bP_gatherRules_51, gP_gatherRules_51]
      rw [sh_1 p (by omega)]
      by_cases e : t = 2 ^ p
      · subst e
        refine Or.inl ⟨_, if_pos (Int32.le_refl _), _, L, rfl, ?_, hf⟩
        rw [Nat.pow_succ, Nat.mul_two]; exact hL
      · have ht' : t < 2 ^ p := by omega
        refine Or.inr ⟨ht', ?_⟩
        have hor : t ||| 2 ^ p = 2 ^ p + t := or_pow ht'
        rw [if_neg (nI_ltc ht' (by omega)), nI_or, hor]
        have v1 : vp_in (nI t) 512 := vi_ (show t < 512 by omega) (by decide)
        have v2 : vp_in (nI (2 ^ p + t)) 512 := vi_ (show 2 ^ p + t < 512 by omega) (by decide)
        simp only [xgd_pos v1, xgd_pos v2, xlt_eq, cl_ (show t < 100000 by omega), cl_ (show 2 ^ p + t < 100000 by omega), nI_1]
        rw [up2_ne (show 16 ≠ 15 by decide), hL.1 t (by omega), hL.2 t (by omega), nI_or, nI_or, ← orT_s hp (foeS_lt _ _ hp), ← orT_s hp (matS_lt _ _ _), hor]
        refine ⟨_, rfl, _, rfl, ⟨fun x hx => ?_, fun x hx => ?_⟩, fun j h1 h2 => by rw [up2_ne h2, up2_ne h1]; exact hf j h1 h2⟩
        · rw [up2_ne (by decide), up2_same]
          by_cases e2 : x = 2 ^ p + t
          · subst e2; exact pk_us
          · rw [pk_un e2]; exact hL.1 x (by omega)
        · rw [up2_same]
          by_cases e2 : x = 2 ^ p + t
          · subst e2; exact pk_us
          · rw [pk_un e2, up2_ne (by decide)]; exact hL.2 x (by omega)
  have h := xlp_inv (b := bP_gatherRules_2) (fun p (st : Int32 × Mem) => ∃ L, st = (nI p, L) ∧ tbX Y (2 ^ p) L ∧ (∀ r, r < p → L 17 r = nI (befS (Y 1) (Y 6) r)) ∧ (∀ j, j ≠ 15 → j ≠ 16 → j ≠ 17 → L j = X j)) (fun t => ∃ v L, t = (v, L) ∧ tbX Y 512 L ∧ (∀ r, r < 9 → L 17 r = nI (befS (Y 1) (Y 6) r)) ∧ (∀ j, j ≠ 15 → j ≠ 16 → j ≠ 17 → L j = X j)) 9 ?_ (0, X) ⟨X, rfl, ⟨fun x hx => by rw [show x = 0 by simpa using hx, h15, orT_0]; rfl, fun x hx => by rw [show x = 0 by simpa using hx, h16, orT_0]; rfl⟩, fun r hr => absurd hr (Nat.not_lt_zero r), fun _ _ _ _ => rfl⟩
  · obtain ⟨t, t1, v, L, rfl, t2, t3, t4⟩ := h
    refine ⟨L, ?_, t2, t3, t4⟩
    unfold fP_gatherRules
    rw [t1, xbd_eq]; rfl
  · rintro p st hp ⟨L, rfl, hL, hb, hf⟩
    dsimp only [bP_gatherRules_2, gP_gatherRules_2]
    by_cases e : p = 9
    · subst e
      exact Or.inl ⟨_, if_pos (Int32.le_refl (nI 9)), _, L, rfl, hL, hb, hf⟩
    · have hp' : p < 9 := by omega
      refine Or.inr ⟨hp', ?_⟩
      have hT' : qT L Y := qT_c (fun j h1 h2 => hf j (by omega) (by omega) (by omega)) (fun _ _ _ => rfl) hT
      have e7 : L (6 + 1 + (0 : Int32).toNatClampNeg) p = nI (rY (Y 6) 0 p) := r5_at (X := L) hT'.2.2.2.2.1 (k := 0) (by decide) hp'
      have e9 : L (6 + 1 + (2 : Int32).toNatClampNeg) p = nI (rY (Y 6) 2 p) := r5_at (X := L) hT'.2.2.2.2.1 (k := 2) (by decide) hp'
      rw [if_neg (show ¬ (9 : Int32) ≤ nI p from nI_ltc hp' (by decide)), xT_foes hT' hp', xbd_eq]
      simp only [xgd_pos (show vp_in 0 3 from vi_ (j := 0) (by decide) (by decide)), xgd_pos (show vp_in 2 3 from vi_ (j := 2) (by decide) (by decide)), xgd_pos (vi_ hp' (show 9 < 100000 by decide)), xlt_eq, cl_ (show p < 100000 by omega)]
      rw [e7, e9, hf 12 (by decide) (by decide) (by decide), hh, nI_and, nI_and]
      obtain ⟨v, L2, b1, b2, b3⟩ := inner p (up2 L 17 p (nI (befS (Y 1) (Y 6) p))) hp' ⟨fun x hx => by rw [up2_ne (by decide)]; exact hL.1 x hx, fun x hx => by rw [up2_ne (by decide)]; exact hL.2 x hx⟩
      show ∃ s', xbd (xlp (bP_gatherRules_51 (nI p) (nI (foeS (Y 4) (Y 6) p)) (nI (matS (Y 1) (Y 6) p))) (0, up2 L 17 p (nI (befS (Y 1) (Y 6) p)))) _ = _ ∧ _
      rw [b1, xbd_eq]
      unfold fP_gatherRules_106
      rw [xlt_eq, nI_1]
      refine ⟨_, rfl, L2, rfl, b2, fun r hr => ?_, fun j h1 h2 h3 => by rw [b3 j h1 h2, up2_ne h3]; exact hf j h1 h2 h3⟩
      rw [b3 17 (by decide) (by decide), up2_same]
      by_cases e2 : r = p
      · subst e2; exact pk_us
      · rw [pk_un e2]; exact hb r (by omega)
theorem xP_ready {M : Mem} {y1 y6 : Nat → Int32} (h17 : ∀ p, p < 9 → M 17 p = nI (befS y1 y6 p)) (P : Nat) : fP_papersReady (nI P) M = some (nI (rdy y1 y6 P)) := by
  have hr : xlp (bP_papersReady_4 (nI P) M) (nI (sO (fun p => decide (nd (befS y1 y6 p) P = 0)) 0), 0) = some (nI (sO (fun p => decide (nd (befS y1 y6 p) P = 0)) 9), nI 9) := by
    refine run2 (n := 9) (fun n => nI (sO (fun p => decide (nd (befS y1 y6 p) P = 0)) n)) (fun p hp => ?_) ?_
    · dsimp only [bP_papersReady_4, gP_papersReady_4]
      have hlt : sO (fun p => decide (nd (befS y1 y6 p) P = 0)) p < 2 ^ 31 := Nat.lt_of_lt_of_le (sO_lt _ p) (Nat.pow_le_pow_right (by decide) (by omega))
      have hb31 : befS y1 y6 p < 2 ^ 31 := Nat.lt_trans (befS_lt _ _ _) (by decide)
      have w0 : fE_with (nI (sO (fun p => decide (nd (befS y1 y6 p) P = 0)) p)) (nI p) 0 = some (nI (wit (sO (fun p => decide (nd (befS y1 y6 p) P = 0)) p) p false)) := xE_with (z := false) hlt (by omega)
      have w1 : fE_with (nI (sO (fun p => decide (nd (befS y1 y6 p) P = 0)) p)) (nI p) 1 = some (nI (wit (sO (fun p => decide (nd (befS y1 y6 p) P = 0)) p) p true)) := xE_with (z := true) hlt (by omega)
      unfold fP_papersReady_30
      rw [if_neg (show ¬ (9 : Int32) ≤ nI p from nI_ltc hp (by decide)), xgd_pos (vi_ hp (by decide)), cl_ (by omega), h17 p hp, nI_nd _ hb31, w0, w1, xbd_eq, xbd_eq, xlt_eq, xlt_eq, nI_1]
      show _ = some (Sum.inr (nI (wit (sO (fun p => decide (nd (befS y1 y6 p) P = 0)) p) p (decide (nd (befS y1 y6 p) P = 0))), _))
      by_cases e : nd (befS y1 y6 p) P = 0
      · rw [if_pos ((nI_zero (Nat.lt_of_le_of_lt (nd_le _ _) hb31)).mpr e), decide_eq_true e]
      · rw [if_neg (fun e9 => e ((nI_zero (Nat.lt_of_le_of_lt (nd_le _ _) hb31)).mp e9)), decide_eq_false e]
    · dsimp only [bP_papersReady_4, gP_papersReady_4]; exact if_pos (Int32.le_refl (nI 9))
  unfold fP_papersReady
  show xbd (xlp _ (nI (sO (fun p => decide (nd (befS y1 y6 p) P = 0)) 0), 0)) _ = _
  rw [hr, xbd_eq]; rfl
theorem xP_meet {M Y : Mem} (h : tbX Y 512 M) {x : Nat} (hx : x < 512) : fP_mayMeet (nI x) M = some (bz (mtB (Y 1) (Y 4) (Y 6) x)) := by
  unfold fP_mayMeet fP_mayMeet_28 fP_mayMeet_29
  have l1 : orT (foeS (Y 4) (Y 6)) x < 2 ^ 31 := Nat.lt_trans (orT_lt _ _) (by decide)
  have l2 : orT (matS (Y 1) (Y 6)) x < 2 ^ 31 := Nat.lt_trans (orT_lt _ _) (by decide)
  rw [xgd_pos (vi_ hx (by decide)), cl_ (by omega), h.1 x hx, h.2 x hx, nI_and, xgd_pos (vi_ hx (by decide)), nI_nd _ l2, xgd_pos (by decide), xgd_pos (by decide)]
  unfold mtB
  by_cases e1 : orT (foeS (Y 4) (Y 6)) x &&& x = 0
  · rw [if_pos (by rw [e1]; rfl), decide_eq_true e1]
    by_cases e2 : nd (orT (matS (Y 1) (Y 6)) x) x = 0
    · rw [if_pos (by rw [e2]; rfl), decide_eq_true e2]; rfl
    · rw [if_neg (fun e9 => e2 ((nI_zero (Nat.lt_of_le_of_lt (nd_le _ _) l2)).mp e9)), decide_eq_false e2]; rfl
  · rw [if_neg (fun e9 => e1 ((nI_zero (Nat.lt_of_le_of_lt Nat.and_le_left l1)).mp e9)), decide_eq_false e1]; rfl
