/-! ===== the reference's conditions ===== -/
def allB (P : Nat → Bool) : Nat → Bool
  | 0 => true
  | n + 1 => allB P n && P n
theorem allB_t {P : Nat → Bool} : ∀ {n : Nat}, allB P n = true ↔ ∀ i, i < n → P i = true
  | 0 => ⟨fun _ i hi => absurd hi (Nat.not_lt_zero i), fun _ => rfl⟩
  | n + 1 => by
    show (allB P n && P n) = true ↔ _
    rw [Bool.and_eq_true, allB_t]
    constructor
    · rintro ⟨h1, h2⟩ i hi
      by_cases e : i = n
      · subst e; exact h2
      · exact h1 i (by omega)
    · intro h
      exact ⟨fun i hi => h i (by omega), h n (by omega)⟩
theorem stopl {b : Int32 × Int32 → Option ((Int32 × Int32) ⊕ (Int32 × Int32))} {P : Nat → Bool} {n : Nat} (hb : ∀ i, i < n → b (1, nI i) = some (.inr (bz (P i), nI (i + 1)))) (h0 : ∀ i, i ≤ n → b (0, nI i) = some (.inl (0, nI i))) (hn : b (1, nI n) = some (.inl (1, nI n))) : ∃ v, xlp b (1, 0) = some (bz (allB P n), v) := by
  cases hf : fN (fun i => !P i) n with
  | none =>
    have hall : ∀ i, i < n → P i = true := fun i hi => by
      have := fN_none hf i hi
      rwa [Bool.not_eq_false'] at this
    have h := xlp_run (b := b) (r := (1, nI n)) (fun i => (1, nI i)) n (fun i hi => by rw [hb i hi, hall i hi]; rfl) hn 0 (Nat.zero_le _)
    exact ⟨nI n, by rw [allB_t.mpr hall]; exact h⟩
  | some k =>
    obtain ⟨k1, k2, k3⟩ := fN_some hf
    rw [Bool.not_eq_true'] at k2
    have r1 := xlp_to (b := b) (fun i => (1, nI i)) k (fun i hi => by
      have := k3 i hi
      rw [Bool.not_eq_false'] at this
      rw [hb i (by omega), this]; rfl)
    have r2 := hb k k1
    rw [k2] at r2
    have hz : allB P n = false := by
      rw [Bool.eq_false_iff]; intro e
      rw [allB_t.mp e k k1] at k2; cases k2
    refine ⟨nI (k + 1), ?_⟩
    rw [show ((1 : Int32), (0 : Int32)) = (1, nI 0) from rfl, r1, xlp_go r2, hz]
    exact xlp_end (h0 (k + 1) (by omega))
def clP (y4 : Nat → Int32) (p q : Nat) : Bool := !decide (cnt (bothP y4 p q) 40 = 0)
def okQ (y4 y6 : Nat → Int32) (set Hd p q : Nat) : Bool := !(set.testBit q && (!decide (p = q) && (bq (y6 (81 + 9 * p + q)) || (bq (y6 (162 + 9 * p + q)) || clP y4 p q)))) && !(Hd.testBit q && (!set.testBit q && bq (y6 (9 * p + q))))
def ftP (y1 y2 y3 : Nat → Int32) (s set p : Nat) : Bool := !set.testBit p || (!decide (y1 p ≤ 0) && (!decide (y2 s < y1 p) && (decide (y3 p = -1) || decide (y3 p = nI s))))
def fitsB (Y : Mem) (s set Hd : Nat) : Bool := allB (fun p => ftP (Y 1) (Y 2) (Y 3) s set p && (!set.testBit p || allB (okQ (Y 4) (Y 6) set Hd p) 9)) 9
def fqP (y6 : Nat → Int32) (ahead Hd p q : Nat) : Bool := !(bq (y6 (162 + 9 * q + p)) && (Hd.testBit q && !ahead.testBit q)) && !(bq (y6 (162 + 9 * p + q)) && ahead.testBit q)
def folB (y6 : Nat → Int32) (set ahead Hd : Nat) : Bool := decide (set &&& ahead = 0) && allB (fun p => !set.testBit p || allB (fqP y6 ahead Hd p) 9) 9
def kepB (bd : Nat → Int32) (s set : Nat) : Bool := allB (fun p => decide (bd p = -1) || (set.testBit p == decide (bd p = nI s))) 9
theorem xM_held (Y : Mem) : fM_held Y = some (nI (heldS (Y 1))) := by
  have hr : xlp (bM_held_4 Y) (nI (sO (heldP (Y 1)) 0), 0) = some (nI (sO (heldP (Y 1)) 9), nI 9) := by
    refine run2 (n := 9) (fun i => nI (sO (heldP (Y 1)) i)) (fun i hi => ?_) ?_
    · dsimp only [bM_held_4, gM_held_4]
      unfold fM_held_28
      rw [if_neg (show ¬ (9 : Int32) ≤ nI i from nI_ltc hi (by decide)), xgd_pos (vi_ hi (by decide)), cl_ (by omega), sh_1 i (by omega), nI_or, xlt_eq, xlt_eq, nI_1]
      show _ = some (Sum.inr (nI (wit (sO (heldP (Y 1)) i) i (heldP (Y 1) i)), _))
      unfold heldP
      by_cases e : Y 1 i ≤ 0
      · rw [if_pos e, decide_eq_true e]
        show _ = some (Sum.inr (nI (wit _ i false), _))
        rw [wit_new (sO_lt _ i)]
      · rw [if_neg e, decide_eq_false e]; rfl
    · dsimp only [bM_held_4, gM_held_4]; exact if_pos (Int32.le_refl (nI 9))
  unfold fM_held
  show xbd (xlp _ (nI (sO (heldP (Y 1)) 0), 0)) _ = _
  rw [hr, xbd_eq]; rfl
theorem ix162 (a b : Nat) : (162 : Int32) + (9 : Int32) * nI a + nI b = nI (162 + 9 * a + b) := by
  show nI 162 + nI 9 * nI a + nI b = _
  rw [pk_mul, nI_add, nI_add]
theorem ix81b (a b : Nat) : (81 : Int32) + (9 : Int32) * nI a + nI b = nI (81 + 9 * a + b) := by
  show nI 81 + nI 9 * nI a + nI b = _
  rw [pk_mul, nI_add, nI_add]
theorem xM_fits {M Y : Mem} (hM : ∀ j, 1 ≤ j → j < 7 → M j = Y j) (h12 : ∀ p q, p < 9 → q < 9 → M 12 (9 * p + q) = bz (clP (Y 4) p q)) {s set Hd : Nat} (hs : s < 6) (hset : set < 512) (hHd : Hd < 512) : fM_fits (nI s) (nI set) (nI Hd) M = some (bz (fitsB Y s set Hd)) := by
  have m6 : M 6 = Y 6 := hM 6 (by decide) (by decide)
  have hl1 : set < 2 ^ 31 := by omega
  have hl2 : Hd < 2 ^ 31 := by omega
  have inner : ∀ (p : Nat) (z : Bool), p < 9 → ∃ v, xlp (bM_fits_85 (nI s) (nI set) (nI Hd) (nI p) M) (bz z, 0) = some (bz (z && (!set.testBit p || allB (okQ (Y 4) (Y 6) set Hd p) 9)), v) := by
    intro p z hp
    cases hz : z with
    | false =>
      refine ⟨0, xlp_end ?_⟩
      dsimp only [bM_fits_85, gM_fits_85]
      rw [if_neg (by decide), xM_has hl1 (by omega), xbd_eq]
      by_cases c : bz (set.testBit p) = 0
      · rw [if_pos c]; rfl
      · rw [if_neg c, if_pos (by decide)]; rfl
    | true =>
      cases hb : set.testBit p with
      | false =>
        refine ⟨0, xlp_end ?_⟩
        dsimp only [bM_fits_85, gM_fits_85]
        rw [if_neg (by decide), xM_has hl1 (by omega), xbd_eq, hb, if_pos (by decide)]; rfl
      | true =>
        have := stopl (b := bM_fits_85 (nI s) (nI set) (nI Hd) (nI p) M) (P := okQ (Y 4) (Y 6) set Hd p) (n := 9) (fun q hq => ?_) (fun q hq => ?_) ?_
        · obtain ⟨v, hv'⟩ := this
          exact ⟨v, by rw [show (true && (!true || allB (okQ (Y 4) (Y 6) set Hd p) 9)) = allB (okQ (Y 4) (Y 6) set Hd p) 9 by simp]; exact hv'⟩
        · dsimp only [bM_fits_85, gM_fits_85]
          unfold fM_fits_189 fM_fits_215 fM_fits_219 fM_fits_220
          rw [if_neg (show ¬ (9 : Int32) ≤ nI q from nI_ltc hq (by decide)), xM_has hl1 (by omega), xbd_eq, hb, if_neg (by decide), if_neg n10, xM_has hl1 (by omega), xbd_eq, xM_has hl2 (by omega), xbd_eq]
          simp only [xlt_eq, nI_1, ix162, ix81b, ix9]
          rw [xgd_pos (vi_ (show 9 * p + q < 243 by omega) (by decide)), xgd_pos (vi_ (show 81 + 9 * p + q < 243 by omega) (by decide)), xgd_pos (vi_ (show 162 + 9 * p + q < 243 by omega) (by decide)), xgd_pos (vi_ (show 9 * p + q < 81 by omega) (by decide)), cl_ (show 9 * p + q < 100000 by omega), cl_ (show 81 + 9 * p + q < 100000 by omega), cl_ (show 162 + 9 * p + q < 100000 by omega)]
          have t0 : (M 6 (9 * p + q) = 0) ↔ bq (Y 6 (9 * p + q)) = false := by rw [m6]; exact bq_f.symm
          have t1 : (M 6 (81 + 9 * p + q) = 0) ↔ bq (Y 6 (81 + 9 * p + q)) = false := by rw [m6]; exact bq_f.symm
          have t2 : (M 6 (162 + 9 * p + q) = 0) ↔ bq (Y 6 (162 + 9 * p + q)) = false := by rw [m6]; exact bq_f.symm
          have t3 : (M 12 (9 * p + q) = 0) ↔ clP (Y 4) p q = false := by rw [h12 p q hp hq]; exact bz_0
          have t4 : (nI p = nI q) ↔ p = q := nI_eq (by omega) (by omega)
          simp only [t0, t1, t2, t3, t4, bz_0]
          unfold okQ
          cases b1 : set.testBit q <;> cases b2 : Hd.testBit q <;> by_cases b3 : p = q <;> cases b4 : bq (Y 6 (81 + 9 * p + q)) <;> cases b5 : bq (Y 6 (162 + 9 * p + q)) <;> cases b6 : clP (Y 4) p q <;> cases b7 : bq (Y 6 (9 * p + q)) <;> simp [b3] <;> rfl
        · dsimp only [bM_fits_85, gM_fits_85]
          by_cases c : (9 : Int32) ≤ nI q
          · rw [if_pos c]
          · rw [if_neg c, xM_has hl1 (by omega), xbd_eq, hb, if_neg (by decide), if_pos rfl]
        · dsimp only [bM_fits_85, gM_fits_85]; exact if_pos (Int32.le_refl (nI 9))
  have hr : xlp (bM_fits_6 (nI s) (nI set) (nI Hd) M) (1, 0) = some (bz (fitsB Y s set Hd), nI 9) := by
    refine run2 (n := 9) (fun n => bz (allB (fun p => ftP (Y 1) (Y 2) (Y 3) s set p && (!set.testBit p || allB (okQ (Y 4) (Y 6) set Hd p) 9)) n)) (fun p hp => ?_) ?_
    · dsimp only [bM_fits_6, gM_fits_6]
      unfold fM_fits_75 fM_fits_79 fM_fits_80
      have fin : ∀ z : Bool, z = (allB (fun p => ftP (Y 1) (Y 2) (Y 3) s set p && (!set.testBit p || allB (okQ (Y 4) (Y 6) set Hd p) 9)) p && ftP (Y 1) (Y 2) (Y 3) s set p) → xbd (xlp (bM_fits_85 (nI s) (nI set) (nI Hd) (nI p) M) (bz z, 0)) (fun e85 => fM_fits_228 (nI s) (nI set) (nI Hd) e85.1 (nI p) M) = some (.inr (bz (allB (fun p => ftP (Y 1) (Y 2) (Y 3) s set p && (!set.testBit p || allB (okQ (Y 4) (Y 6) set Hd p) 9)) (p + 1)), nI (p + 1))) := by
        intro z hz
        obtain ⟨v, hv'⟩ := inner p z hp
        rw [hv', xbd_eq]
        unfold fM_fits_228
        rw [xlt_eq, nI_1, hz, Bool.and_assoc]; rfl
      rw [if_neg (show ¬ (9 : Int32) ≤ nI p from nI_ltc hp (by decide)), xM_has hl1 (by omega), xbd_eq, xgd_pos (vi_ hp (by decide)), xgd_pos (vi_ hs (by decide)), xgd_pos (vi_ hp (by decide)), xgd_pos (vi_ hp (by decide)), xgd_pos (vi_ hp (by decide)), cl_ (show p < 100000 by omega), cl_ (show s < 100000 by omega)]
      have m1 : M 1 p = Y 1 p := by rw [hM 1 (by decide) (by decide)]
      have m2 : M 2 s = Y 2 s := by rw [hM 2 (by decide) (by decide)]
      have m3 : M 3 p = Y 3 p := by rw [hM 3 (by decide) (by decide)]
      cases ha : allB (fun p => ftP (Y 1) (Y 2) (Y 3) s set p && (!set.testBit p || allB (okQ (Y 4) (Y 6) set Hd p) 9)) p with
      | false => rw [if_pos (by decide)]; exact fin false (by rw [ha]; rfl)
      | true =>
        rw [if_neg (by decide)]
        unfold ftP at fin
        cases hb : set.testBit p with
        | false => rw [if_pos (by decide)]; exact fin true (by unfold ftP at ha; rw [ha, hb]; rfl)
        | true =>
          rw [if_neg (by decide)]
          unfold ftP at ha
          rw [ha, hb] at fin
          by_cases c1 : Y 1 p ≤ 0
          · rw [if_pos (by rw [m1]; exact c1)]; exact fin false (by simp [c1])
          · rw [if_neg (by rw [m1]; exact c1)]
            by_cases c2 : Y 2 s < Y 1 p
            · rw [if_pos (by rw [m1, m2]; exact c2)]; exact fin false (by simp [c2])
            · rw [if_neg (by rw [m1, m2]; exact c2)]
              by_cases c3 : Y 3 p = -1
              · rw [if_pos (m3.trans c3)]; exact fin true (by simp [c1, c2, c3])
              · rw [if_neg (fun e => c3 (m3.symm.trans e))]
                by_cases c4 : Y 3 p = nI s
                · rw [if_pos (m3.trans c4)]; exact fin true (by simp [c1, c2, c4])
                · rw [if_neg (fun e => c4 (m3.symm.trans e))]; exact fin false (by simp [c3, c4])
    · dsimp only [bM_fits_6, gM_fits_6]; exact if_pos (Int32.le_refl (nI 9))
  unfold fM_fits
  rw [hr, xbd_eq]
  exact xgd_pos (bz_01 _) _
theorem xM_follows {M Y : Mem} (m6 : M 6 = Y 6) {set ahead Hd : Nat} (hset : set < 512) (hah : ahead < 512) (hHd : Hd < 512) : fM_follows (nI set) (nI ahead) (nI Hd) M = some (bz (folB (Y 6) set ahead Hd)) := by
  have hl1 : set < 2 ^ 31 := by omega
  have hl2 : Hd < 2 ^ 31 := by omega
  have hl3 : ahead < 2 ^ 31 := by omega
  have inner : ∀ (p : Nat) (z : Bool), p < 9 → ∃ v, xlp (bM_follows_26 (nI set) (nI ahead) (nI Hd) (nI p) M) (bz z, 0) = some (bz (z && (!set.testBit p || allB (fqP (Y 6) ahead Hd p) 9)), v) := by
    intro p z hp
    cases hz : z with
    | false =>
      refine ⟨0, xlp_end ?_⟩
      dsimp only [bM_follows_26, gM_follows_26]
      rw [if_neg (by decide), if_pos (by decide)]; rfl
    | true =>
      cases hb : set.testBit p with
      | false =>
        refine ⟨0, xlp_end ?_⟩
        dsimp only [bM_follows_26, gM_follows_26]
        rw [if_neg (by decide), if_neg (by decide), xM_has hl1 (by omega), xbd_eq, hb, if_pos (by decide)]; rfl
      | true =>
        have := stopl (b := bM_follows_26 (nI set) (nI ahead) (nI Hd) (nI p) M) (P := fqP (Y 6) ahead Hd p) (n := 9) (fun q hq => ?_) (fun q hq => ?_) ?_
        · obtain ⟨v, hv'⟩ := this
          exact ⟨v, by rw [show (true && (!true || allB (fqP (Y 6) ahead Hd p) 9)) = allB (fqP (Y 6) ahead Hd p) 9 by simp]; exact hv'⟩
        · dsimp only [bM_follows_26, gM_follows_26]
          unfold fM_follows_85 fM_follows_114 fM_follows_118 fM_follows_119
          rw [if_neg (show ¬ (9 : Int32) ≤ nI q from nI_ltc hq (by decide)), if_neg n10, xM_has hl1 (by omega), xbd_eq, hb, if_neg (by decide), xM_has hl2 (by omega), xbd_eq, xM_has hl3 (by omega), xbd_eq, xbd_eq]
          simp only [xlt_eq, nI_1, ix162]
          rw [xgd_pos (vi_ (show 162 + 9 * q + p < 243 by omega) (by decide)), xgd_pos (vi_ (show 162 + 9 * p + q < 243 by omega) (by decide)), cl_ (show 162 + 9 * q + p < 100000 by omega), cl_ (show 162 + 9 * p + q < 100000 by omega)]
          have t1 : (M 6 (162 + 9 * q + p) = 0) ↔ bq (Y 6 (162 + 9 * q + p)) = false := by rw [m6]; exact bq_f.symm
          have t2 : (M 6 (162 + 9 * p + q) = 0) ↔ bq (Y 6 (162 + 9 * p + q)) = false := by rw [m6]; exact bq_f.symm
          simp only [t1, t2, bz_0]
          unfold fqP
          cases b1 : bq (Y 6 (162 + 9 * q + p)) <;> cases b2 : Hd.testBit q <;> cases b4 : ahead.testBit q <;> cases b5 : bq (Y 6 (162 + 9 * p + q)) <;> simp <;> rfl
        · dsimp only [bM_follows_26, gM_follows_26]
          by_cases c : (9 : Int32) ≤ nI q
          · rw [if_pos c]
          · rw [if_neg c, if_pos rfl]
        · dsimp only [bM_follows_26, gM_follows_26]; exact if_pos (Int32.le_refl (nI 9))
  have hr : ∀ z : Bool, xlp (bM_follows_16 (nI set) (nI ahead) (nI Hd) M) (bz (z && allB (fun p => !set.testBit p || allB (fqP (Y 6) ahead Hd p) 9) 0), 0) = some (bz (z && allB (fun p => !set.testBit p || allB (fqP (Y 6) ahead Hd p) 9) 9), nI 9) := by
    intro z
    refine run2 (n := 9) (fun n => bz (z && allB (fun p => !set.testBit p || allB (fqP (Y 6) ahead Hd p) 9) n)) (fun p hp => ?_) ?_
    · dsimp only [bM_follows_16, gM_follows_16]
      obtain ⟨v, hv'⟩ := inner p (z && allB (fun p => !set.testBit p || allB (fqP (Y 6) ahead Hd p) 9) p) hp
      rw [if_neg (show ¬ (9 : Int32) ≤ nI p from nI_ltc hp (by decide)), hv', xbd_eq]
      unfold fM_follows_127
      rw [xlt_eq, nI_1, Bool.and_assoc]; rfl
    · dsimp only [bM_follows_16, gM_follows_16]; exact if_pos (Int32.le_refl (nI 9))
  have ends : ∀ z : Bool, fM_follows_11 (nI set) (nI ahead) (nI Hd) (bz z) M = some (bz (z && allB (fun p => !set.testBit p || allB (fqP (Y 6) ahead Hd p) 9) 9)) := by
    intro z
    have h := hr z
    rw [show (z && allB (fun p => !set.testBit p || allB (fqP (Y 6) ahead Hd p) 9) 0) = z by show (z && true) = z; rw [Bool.and_true]] at h
    unfold fM_follows_11
    rw [h, xbd_eq]
    exact xgd_pos (bz_01 _) _
  unfold fM_follows folB
  rw [nI_and]
  by_cases e : set &&& ahead = 0
  · rw [if_pos (by rw [e]; rfl), decide_eq_true e]; exact ends true
  · rw [if_neg (fun e9 => e ((nI_zero (Nat.lt_of_le_of_lt Nat.and_le_left hl1)).mp e9)), decide_eq_false e]; exact ends false
theorem xM_keeps {M : Mem} {s set : Nat} (hset : set < 512) : fM_keeps (nI s) (nI set) M = some (bz (kepB (M 9) s set)) := by
  have hl1 : set < 2 ^ 31 := by omega
  have hr : xlp (bM_keeps_5 (nI s) (nI set) M) (1, 0) = some (bz (kepB (M 9) s set), nI 9) := by
    refine run2 (n := 9) (fun n => bz (allB (fun p => decide (M 9 p = -1) || (set.testBit p == decide (M 9 p = nI s))) n)) (fun p hp => ?_) ?_
    · dsimp only [bM_keeps_5, gM_keeps_5]
      unfold fM_keeps_49 fM_keeps_52 fM_keeps_56 fM_keeps_57
      rw [if_neg (show ¬ (9 : Int32) ≤ nI p from nI_ltc hp (by decide)), xgd_pos (vi_ hp (by decide)), cl_ (by omega), xM_has hl1 (by omega), xbd_eq, xgd_pos (vi_ hp (by decide)), xlt_eq, xlt_eq, nI_1]
      show _ = some (Sum.inr (bz (allB (fun p => decide (M 9 p = -1) || (set.testBit p == decide (M 9 p = nI s))) p && (decide (M 9 p = -1) || (set.testBit p == decide (M 9 p = nI s)))), _))
      cases ha : allB (fun p => decide (M 9 p = -1) || (set.testBit p == decide (M 9 p = nI s))) p with
      | false => rw [if_pos (by decide)]; rfl
      | true =>
        rw [if_neg (by decide)]
        by_cases c1 : M 9 p = -1
        · rw [if_pos c1, decide_eq_true c1]; rfl
        · rw [if_neg c1, decide_eq_false c1]
          by_cases c2 : M 9 p = nI s
          · rw [if_pos c2, decide_eq_true c2]
            cases set.testBit p with
            | true => rw [if_pos (by decide)]; rfl
            | false => rw [if_neg (by decide)]; rfl
          · rw [if_neg c2, decide_eq_false c2]
            cases set.testBit p with
            | true => rw [if_neg (by decide)]; rfl
            | false => rw [if_pos (by decide)]; rfl
    · dsimp only [bM_keeps_5, gM_keeps_5]; exact if_pos (Int32.le_refl (nI 9))
  unfold fM_keeps
  rw [hr, xbd_eq]
  exact xgd_pos (bz_01 _) _
