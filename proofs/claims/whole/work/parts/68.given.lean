/-! ===== the table is made, the places are given ===== -/
section GV
variable {q pa : Nat → Nat → Nat} {s : Nat} {M : Mem}
theorem may_at (hF : rF (M 17) (M 18) q pa) (hq : ∀ s k, s < 6 → k < 144 → q s k ≤ 40) (hpa : ∀ s k, s < 6 → k < 144 → q s k ≠ 0 → pa s k < 9) (hs : s < 6) {N : Mem} (hN : ∀ j, j ≠ 21 → j ≠ 22 → j ≠ 23 → N j = M j) {r i : Nat} (hr : r < 4) (hi : i < 10) (hw : wcS (N 21) i = wcS (M 21) i) : fM_mayWatch (nI s) (nI r) (nI i) N = some (bz (tmP (M 19) (M 21) i && suP q pa (M 20) s r i)) := by
  rw [xM_may (M := N) (q := q) (pa := pa) (by rw [hN 17 (by decide) (by decide) (by decide), hN 18 (by decide) (by decide) (by decide)]; exact hF) hq hpa hs hr hi]
  rw [hN 20 (by decide) (by decide) (by decide), hN 19 (by decide) (by decide) (by decide)]
  unfold tmP
  rw [hw]
theorem row23 (hF : rF (M 17) (M 18) q pa) (hq : ∀ s k, s < 6 → k < 144 → q s k ≤ 40) (hpa : ∀ s k, s < 6 → k < 144 → q s k ≠ 0 → pa s k < 9) (hs : s < 6) {N : Mem} (hN : ∀ j, j ≠ 23 → N j = M j) {k many : Nat} (hk : k ≤ 9) {r : Nat} (hr : r < 4) (h22 : M 22 k = nI r) {nxt : Nat → Bool} (h0 : ∀ t, t < 1024 → N 23 (1024 * k + t) = 0) (hn : ∀ t, t < 1024 → N 23 (1024 * (k + 1) + t) = bz (nxt t)) : ∃ v M', xlp (bM_watch_176 (nI s) (nI many) (nI k)) (0, N) = some (v, M') ∧ (∀ j, j ≠ 23 → M' j = M j) ∧ (∀ t, t < 1024 → M' 23 (1024 * k + t) = bz (anyB (fun i => (tmP (M 19) (M 21) i && suP q pa (M 20) s r i) && (!t.testBit i && nxt (t ||| 2 ^ i))) 10)) ∧ (∀ n, n < 1024 * k ∨ 1024 * (k + 1) ≤ n → M' 23 n = N 23 n) := by
  have h := xlp_inv (b := bM_watch_176 (nI s) (nI many) (nI k)) (fun n (st : Int32 × Mem) => ∃ L, st = (nI n, L) ∧ (∀ j, j ≠ 23 → L j = M j) ∧ (∀ t, t < 1024 → L 23 (1024 * k + t) = bz (anyB (fun i => (tmP (M 19) (M 21) i && suP q pa (M 20) s r i) && (!t.testBit i && nxt (t ||| 2 ^ i))) n)) ∧ (∀ n, n < 1024 * k ∨ 1024 * (k + 1) ≤ n → L 23 n = N 23 n)) (fun t => ∃ L, t = (nI 10, L) ∧ (∀ j, j ≠ 23 → L j = M j) ∧ (∀ t, t < 1024 → L 23 (1024 * k + t) = bz (anyB (fun i => (tmP (M 19) (M 21) i && suP q pa (M 20) s r i) && (!t.testBit i && nxt (t ||| 2 ^ i))) 10)) ∧ (∀ n, n < 1024 * k ∨ 1024 * (k + 1) ≤ n → L 23 n = N 23 n)) 10 ?_ (0, N) ⟨N, rfl, hN, fun t ht => h0 t ht, fun _ _ => rfl⟩
  · obtain ⟨t, t1, L, rfl, t2⟩ := h
    exact ⟨_, L, t1, t2⟩
  · rintro i st hi ⟨L, rfl, f1, f2, f3⟩
    dsimp only [bM_watch_176, gM_watch_176]
    by_cases e : i = 10
    · subst e; exact Or.inl ⟨_, if_pos (Int32.le_refl (nI 10)), L, rfl, f1, f2, f3⟩
    · have hi' : i < 10 := by omega
      refine Or.inr ⟨hi', ?_⟩
      rw [if_neg (show ¬ (10 : Int32) ≤ nI i from nI_ltc hi' (by decide)), xgd_pos (vi_ (show k < 41 by omega) (by decide)), cl_ (show k < 100000 by omega), f1 22 (by decide), h22, may_at hF hq hpa hs (N := L) (fun j _ _ h3 => f1 j h3) hr hi' (by rw [f1 21 (by decide)]), xbd_eq]
      unfold fM_watch_289
      cases hm : (tmP (M 19) (M 21) i && suP q pa (M 20) s r i) with
      | false =>
        rw [xlp_end (b := bM_watch_201 (nI s) (nI many) (nI k) (nI i) (bz false)) (s := (0, L)) (r := (0, L)) (by dsimp only [bM_watch_201, gM_watch_201]; rw [if_neg (by decide)]; exact if_pos rfl), xbd_eq]
        simp only [xlt_eq, nI_1]
        refine ⟨_, rfl, L, rfl, f1, fun t ht => ?_, f3⟩
        rw [f2 t ht]
        show _ = bz (anyB _ i || _)
        dsimp only
        rw [hm, Bool.false_and, Bool.or_false]
      | true =>
        obtain ⟨v, L', g1, g2, g3, g4⟩ := or23 (s := s) (many := many) hk hi' f2 (fun t ht => by rw [f3 _ (by omega)]; exact hn t ht)
        show ∃ s', xbd (xlp (bM_watch_201 (nI s) (nI many) (nI k) (nI i) 1) (0, L)) _ = _ ∧ _
        rw [g1, xbd_eq]
        simp only [xlt_eq, nI_1]
        refine ⟨_, rfl, L', rfl, fun j hj => (g2 j hj).trans (f1 j hj), fun t ht => ?_, fun n hn' => (g4 n hn').trans (f3 n hn')⟩
        rw [g3 t ht]
        show _ = bz (anyB _ i || _)
        dsimp only
        rw [hm, Bool.true_and]
theorem sub1 (x : Int32) : x + (-1) = x - 1 := by
  rw [Int32.sub_eq_add_neg]
theorem xM_table (hF : rF (M 17) (M 18) q pa) (hq : ∀ s k, s < 6 → k < 144 → q s k ≤ 40) (hpa : ∀ s k, s < 6 → k < 144 → q s k ≠ 0 → pa s k < 9) (hs : s < 6) (h22 : ∀ k, k < cum q s 4 → M 22 k = nI (plc q s k)) (hmany : cum q s 4 ≤ 10) {N : Mem} (hN : ∀ j, j ≠ 23 → N j = M j) (hlast : ∀ t, t < 1024 → N 23 (1024 * cum q s 4 + t) = 1) :
    ∃ v M', xlp (bM_watch_138 (nI s) (nI (cum q s 4))) (nI (cum q s 4) - 1, N) = some (v, M') ∧ (∀ j, j ≠ 23 → M' j = M j) ∧ (∀ k t, k ≤ cum q s 4 → t < 1024 → M' 23 (1024 * k + t) = bz (cb (suP q pa (M 20) s) (tmP (M 19) (M 21)) q s k t)) := by
  have h := xlp_inv (b := bM_watch_138 (nI s) (nI (cum q s 4))) (fun n (st : Int32 × Mem) => ∃ L, st = (nI (cum q s 4 - n) - 1, L) ∧ (∀ j, j ≠ 23 → L j = M j) ∧ (∀ k t, cum q s 4 - n ≤ k → k ≤ cum q s 4 → t < 1024 → L 23 (1024 * k + t) = bz (cb (suP q pa (M 20) s) (tmP (M 19) (M 21)) q s k t))) (fun t => ∃ v L, t = (v, L) ∧ (∀ j, j ≠ 23 → L j = M j) ∧ (∀ k t, k ≤ cum q s 4 → t < 1024 → L 23 (1024 * k + t) = bz (cb (suP q pa (M 20) s) (tmP (M 19) (M 21)) q s k t))) (cum q s 4) ?_ (nI (cum q s 4) - 1, N) ⟨N, rfl, hN, fun k t h1 h2 ht => ?_⟩
  · obtain ⟨t, t1, v, L, rfl, t2⟩ := h
    exact ⟨v, L, t1, t2⟩
  · rintro n st hn ⟨L, rfl, f1, f2⟩
    dsimp only [bM_watch_138, gM_watch_138]
    by_cases e : n = cum q s 4
    · refine Or.inl ⟨(nI (cum q s 4 - n) - 1, L), ?_, _, L, rfl, f1, fun k t hk ht => f2 k t (by omega) hk ht⟩
      rw [if_pos]
      rw [show cum q s 4 - n = 0 by omega]; decide
    · obtain ⟨k, hk⟩ : ∃ k, cum q s 4 - n = k + 1 := ⟨cum q s 4 - n - 1, by omega⟩
      have hk4 : k < cum q s 4 := by omega
      refine Or.inr ⟨by omega, ?_⟩
      rw [hk, sit1, if_neg (nI_pos (by omega))]
      obtain ⟨L1, a1, a2, a3, a4⟩ := fill23 (b := bM_watch_145 (nI s) (nI (cum q s 4)) (nI k)) (k := k) (v := 0) (fun i N hi => by
        dsimp only [bM_watch_145, gM_watch_145]
        rw [if_neg (show ¬ (1024 : Int32) ≤ nI i from nI_ltc hi (by decide)), ixK, xgd_pos (vi_ (show 1024 * k + i < 41984 by omega) (by decide)), cl_ (show 1024 * k + i < 100000 by omega), show vp_nar .boolean 0 = 0 from bz_nar false]
        simp only [xlt_eq, nI_1]) (fun N => by dsimp only [bM_watch_145, gM_watch_145]; exact if_pos (Int32.le_refl (nI 1024))) L
      rw [a1, xbd_eq]
      unfold fM_watch_173
      obtain ⟨p1, p2, p3⟩ := plc_in hk4
      obtain ⟨v, L2, b1, b2, b3, b4⟩ := row23 hF hq hpa hs (N := L1) (fun j hj => (a2 j hj).trans (f1 j hj)) (k := k) (many := cum q s 4) (by omega) p1 (h22 k hk4) (nxt := cb (suP q pa (M 20) s) (tmP (M 19) (M 21)) q s (k + 1)) a3 (fun t ht => by rw [a4 _ (by omega)]; exact f2 (k + 1) t (by omega) (by omega) ht)
      dsimp only
      rw [b1, xbd_eq]
      unfold fM_watch_295
      rw [xlt_eq, sub1]
      refine ⟨_, rfl, L2, by rw [show cum q s 4 - (n + 1) = k by omega], b2, fun k' t h1 h2 ht => ?_⟩
      by_cases e2 : k' = k
      · subst e2
        rw [b3 t ht, cb_s hk4]
      · rw [b4 _ (by omega), a4 _ (by omega)]
        exact f2 k' t (by omega) h2 ht
  · have e : k = cum q s 4 := by omega
    subst e
    rw [hlast t ht, show cb (suP q pa (M 20) s) (tmP (M 19) (M 21)) q s (cum q s 4) t = true from cb_t.mpr (H_zero (fun r hr => rest_end hr))]
    rfl
end GV
noncomputable def gdP (S : Nat → Nat → Bool) (tm : Nat → Bool) (q : Nat → Nat → Nat) (s k T : Nat) : Nat → Bool := fun i => (tm i && S (plc q s k) i) && (!T.testBit i && cb S tm q s (k + 1) (T ||| 2 ^ i))
noncomputable def cK (S : Nat → Nat → Bool) (tm : Nat → Bool) (q : Nat → Nat → Nat) (s k T : Nat) : Nat := (fN (gdP S tm q s k T) 10).getD 0
noncomputable def tK (S : Nat → Nat → Bool) (tm : Nat → Bool) (q : Nat → Nat → Nat) (s : Nat) : Nat → Nat
  | 0 => 0
  | k + 1 => tK S tm q s k ||| 2 ^ cK S tm q s k (tK S tm q s k)
noncomputable def yK (S : Nat → Nat → Bool) (tm : Nat → Bool) (q : Nat → Nat → Nat) (s : Nat) (y : Nat → Int32) : Nat → (Nat → Int32)
  | 0 => y
  | k + 1 => upd (yK S tm q s y k) (40 * s + 10 * plc q s k + cK S tm q s k (tK S tm q s k)) 1
section GW
variable {S : Nat → Nat → Bool} {tm : Nat → Bool} {q : Nat → Nat → Nat} {s : Nat}
theorem tK_inv (h0 : cb S tm q s 0 0 = true) : ∀ k, k ≤ cum q s 4 → cb S tm q s k (tK S tm q s k) = true ∧ tK S tm q s k < 2 ^ 10
  | 0, _ => ⟨h0, (by decide : (0 : Nat) < 2 ^ 10)⟩
  | k + 1, h => by
    obtain ⟨h1, h2⟩ := tK_inv h0 k (by omega)
    rw [cb_s (show k < cum q s 4 by omega), anyB_fN] at h1
    cases hf : fN (gdP S tm q s k (tK S tm q s k)) 10 with
    | none =>
      have : fN (fun i => (tm i && S (plc q s k) i) && (!(tK S tm q s k).testBit i && cb S tm q s (k + 1) (tK S tm q s k ||| 2 ^ i))) 10 = none := hf
      rw [this] at h1; cases h1
    | some c =>
      obtain ⟨c1, c2, -⟩ := fN_some hf
      have ec : cK S tm q s k (tK S tm q s k) = c := by unfold cK; rw [hf]; rfl
      show cb S tm q s (k + 1) (tK S tm q s k ||| 2 ^ cK S tm q s k (tK S tm q s k)) = true ∧ tK S tm q s k ||| 2 ^ cK S tm q s k (tK S tm q s k) < 2 ^ 10
      rw [ec]
      unfold gdP at c2
      rw [Bool.and_eq_true, Bool.and_eq_true, Bool.and_eq_true] at c2
      exact ⟨c2.2.2, Nat.or_lt_two_pow h2 (Nat.pow_lt_pow_right (by decide) c1)⟩
theorem cK_some (h0 : cb S tm q s 0 0 = true) {k : Nat} (hk : k < cum q s 4) : fN (gdP S tm q s k (tK S tm q s k)) 10 = some (cK S tm q s k (tK S tm q s k)) := by
  have h1 := (tK_inv h0 k (by omega)).1
  rw [cb_s hk, anyB_fN] at h1
  cases hf : fN (gdP S tm q s k (tK S tm q s k)) 10 with
  | none =>
    have : fN (fun i => (tm i && S (plc q s k) i) && (!(tK S tm q s k).testBit i && cb S tm q s (k + 1) (tK S tm q s k ||| 2 ^ i))) 10 = none := hf
    rw [this] at h1; cases h1
  | some c => unfold cK; rw [hf]; rfl
theorem cK_lt (h0 : cb S tm q s 0 0 = true) {k : Nat} (hk : k < cum q s 4) : cK S tm q s k (tK S tm q s k) < 10 := (fN_some (cK_some h0 hk)).1
theorem yK_off (h0 : cb S tm q s 0 0 = true) (y : Nat → Int32) : ∀ k, k ≤ cum q s 4 → ∀ a i, i < 10 → (tK S tm q s k).testBit i = false → yK S tm q s y k (10 * a + i) = y (10 * a + i)
  | 0, _, _, _, _, _ => rfl
  | k + 1, hk, a, i, hi, ht => by
    have ht' : (tK S tm q s k ||| 2 ^ cK S tm q s k (tK S tm q s k)).testBit i = false := ht
    rw [Nat.testBit_or, Nat.testBit_two_pow, Bool.or_eq_false_iff, decide_eq_false_iff_not] at ht'
    have hc := cK_lt h0 (show k < cum q s 4 by omega)
    show upd (yK S tm q s y k) (40 * s + 10 * plc q s k + cK S tm q s k (tK S tm q s k)) 1 (10 * a + i) = _
    rw [pk_un (by omega)]
    exact yK_off h0 y k (by omega) a i hi ht'.1
theorem wcS_off (h0 : cb S tm q s 0 0 = true) (y : Nat → Int32) {k i : Nat} (hk : k ≤ cum q s 4) (hi : i < 10) (ht : (tK S tm q s k).testBit i = false) : wcS (yK S tm q s y k) i = wcS y i := by
  unfold wcS
  refine cnt_ext (fun a ha => anyB_ext (fun r hr => ?_))
  have := yK_off h0 y k hk (4 * a + r) i hi ht
  rw [show 10 * (4 * a + r) + i = 40 * a + 10 * r + i by omega] at this
  rw [this]
end GW
theorem xM_given {q pa : Nat → Nat → Nat} {s : Nat} {M : Mem} (hF : rF (M 17) (M 18) q pa) (hq : ∀ s k, s < 6 → k < 144 → q s k ≤ 40) (hpa : ∀ s k, s < 6 → k < 144 → q s k ≠ 0 → pa s k < 9) (hs : s < 6) (h22 : ∀ k, k < cum q s 4 → M 22 k = nI (plc q s k)) (hmany : cum q s 4 ≤ 10) (h23 : ∀ k t, k ≤ cum q s 4 → t < 1024 → M 23 (1024 * k + t) = bz (cb (suP q pa (M 20) s) (tmP (M 19) (M 21)) q s k t)) (h0 : cb (suP q pa (M 20) s) (tmP (M 19) (M 21)) q s 0 0 = true) :
    ∃ M', fM_given (nI s) (nI (cum q s 4)) M = some (1, M') ∧ (∀ j, j ≠ 21 → M' j = M j) ∧ M' 21 = yK (suP q pa (M 20) s) (tmP (M 19) (M 21)) q s (M 21) (cum q s 4) := by
  generalize hSS : suP q pa (M 20) s = S at *
  generalize htm : tmP (M 19) (M 21) = tm at *
  have inner : ∀ k, k < cum q s 4 → ∀ N : Mem, (∀ j, j ≠ 21 → N j = M j) → N 21 = yK S tm q s (M 21) k → ∃ v w, xlp (bM_given_17 (nI s) (nI (cum q s 4)) (nI k)) (nI (tK S tm q s k), 0, 0, N) = some (nI (tK S tm q s (k + 1)), v, w, up2 N 21 (40 * s + 10 * plc q s k + cK S tm q s k (tK S tm q s k)) 1) := by
    intro k hk N hN hN21
    obtain ⟨c1, c2, c3⟩ := fN_some (cK_some h0 hk)
    obtain ⟨p1, p2, p3⟩ := plc_in hk
    obtain ⟨i1, i2⟩ := tK_inv h0 k (by omega)
    generalize hc : cK S tm q s k (tK S tm q s k) = c at *
    generalize hT : tK S tm q s k = T at *
    have step : ∀ i, i < 10 → bM_given_17 (nI s) (nI (cum q s 4)) (nI k) (nI T, 0, nI i, N) = if gdP S tm q s k T i = true then some (.inr (nI (T ||| 2 ^ i), 1, nI (i + 1), up2 N 21 (40 * s + 10 * plc q s k + i) 1)) else some (.inr (nI T, 0, nI (i + 1), N)) := by
      intro i hi
      dsimp only [bM_given_17, gM_given_17]
      have hor : T ||| 2 ^ i < 2 ^ 10 := Nat.or_lt_two_pow i2 (Nat.pow_lt_pow_right (by decide) hi)
      have hcv : N 23 (1024 * (k + 1) + (T ||| 2 ^ i)) = bz (cb S tm q s (k + 1) (T ||| 2 ^ i)) := by rw [hN 23 (by decide)]; exact h23 (k + 1) _ (by omega) hor
      unfold fM_given_84 fM_given_85 fM_given_123
      rw [if_neg (show ¬ (10 : Int32) ≤ nI i from nI_ltc hi (by decide)), if_pos rfl, if_pos rfl, if_neg n10, xM_has (by omega) (by omega), xbd_eq, xgd_pos (vi_ (show k < 41 by omega) (by decide)), cl_ (show k < 100000 by omega), hN 22 (by decide), h22 k hk, sh_1 i (by omega), nI_or]
      simp only [xlt_eq, nI_1, ixK1, ix40]
      rw [xgd_pos (vi_ (show 1024 * (k + 1) + (T ||| 2 ^ i) < 41984 by omega) (by decide)), cl_ (show 1024 * (k + 1) + (T ||| 2 ^ i) < 100000 by omega), xgd_pos (vi_ (show k < 41 by omega) (by decide)), xgd_pos (vi_ (show 40 * s + 10 * plc q s k + i < 240 by omega) (by decide)), cl_ (show 40 * s + 10 * plc q s k + i < 100000 by omega), show vp_nar .boolean 1 = 1 from bz_nar true]
      unfold gdP
      cases ht : T.testBit i with
      | true => rw [if_neg (by decide), if_neg (by simp)]
      | false =>
        rw [if_pos (by decide)]
        have hw : wcS (N 21) i = wcS (M 21) i := by
          rw [hN21]
          exact wcS_off h0 (M 21) (by omega) hi (by rw [hT]; exact ht)
        rw [may_at hF hq hpa hs (N := N) (fun j h1 _ _ => hN j h1) p1 hi hw, xbd_eq, hSS, htm]
        cases hm : (tm i && S (plc q s k) i) with
        | false => rw [if_pos (by decide), if_neg (by simp)]
        | true =>
          rw [if_neg (by decide)]
          cases hcb : cb S tm q s (k + 1) (T ||| 2 ^ i) with
          | false => rw [if_pos (show N 23 (1024 * (k + 1) + (T ||| 2 ^ i)) = 0 by rw [hcv, hcb]; rfl), if_neg (by simp)]
          | true => rw [if_neg (show ¬ N 23 (1024 * (k + 1) + (T ||| 2 ^ i)) = 0 by rw [hcv, hcb]; decide), if_pos (by simp)]
    have r1 := xlp_to (b := bM_given_17 (nI s) (nI (cum q s 4)) (nI k)) (fun i => (nI T, 0, nI i, N)) c (fun i hi => by rw [step i (by omega), if_neg (by rw [c3 i hi]; decide)])
    have r2 := step c c1
    rw [if_pos c2] at r2
    refine ⟨1, nI (c + 1), ?_⟩
    rw [show ((nI T, (0 : Int32), (0 : Int32), N) : Int32 × Int32 × Int32 × Mem) = (nI T, 0, nI 0, N) from rfl, r1, xlp_go r2]
    rw [show nI (tK S tm q s (k + 1)) = nI (T ||| 2 ^ c) by show nI (tK S tm q s k ||| 2 ^ cK S tm q s k (tK S tm q s k)) = _; rw [hT, hc]]
    refine xlp_end ?_
    dsimp only [bM_given_17, gM_given_17]
    by_cases e : (10 : Int32) ≤ nI (c + 1)
    · rw [if_pos e]
    · rw [if_neg e, if_neg n10]
  have h := xlp_inv (b := bM_given_5 (nI s) (nI (cum q s 4))) (fun k (st : Int32 × Int32 × Mem) => ∃ N, st = (nI (tK S tm q s k), nI k, N) ∧ (∀ j, j ≠ 21 → N j = M j) ∧ N 21 = yK S tm q s (M 21) k) (fun t => ∃ v w N, t = (v, w, N) ∧ (∀ j, j ≠ 21 → N j = M j) ∧ N 21 = yK S tm q s (M 21) (cum q s 4)) (cum q s 4) ?_ (0, 0, M) ⟨M, rfl, fun _ _ => rfl, rfl⟩
  · obtain ⟨t, t1, v, w, N, rfl, t2, t3⟩ := h
    refine ⟨N, ?_, t2, t3⟩
    unfold fM_given
    rw [t1, xbd_eq]
    exact xgd_pos (by decide) _
  · rintro k st hk ⟨N, rfl, f1, f2⟩
    dsimp only [bM_given_5, gM_given_5]
    by_cases e : k = cum q s 4
    · subst e
      exact Or.inl ⟨_, if_pos (Int32.le_refl _), _, _, N, rfl, f1, f2⟩
    · have hk' : k < cum q s 4 := by omega
      refine Or.inr ⟨hk', ?_⟩
      rw [if_neg (nI_ltc hk' (by omega))]
      obtain ⟨v, w, g⟩ := inner k hk' N f1 f2
      rw [g, xbd_eq]
      unfold fM_given_129
      rw [xlt_eq, nI_1]
      refine ⟨_, rfl, _, rfl, fun j hj => by dsimp only; rw [up2_ne hj]; exact f1 j hj, ?_⟩
      dsimp only
      rw [up2_same, f2]; rfl
