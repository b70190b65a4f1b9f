/-! ===== the reference: who may watch, how many are needed, the places ===== -/
theorem xM_sessionsOf (M : Mem) {i : Nat} (hi : i < 10) : fM_sessionsOf (nI i) M = some (nI (wcS (M 21) i)) := by
  have inner : ∀ (v2 : Int32) (s : Nat), s < 6 → xlp (bM_sessionsOf_16 (nI i) v2 (nI s) M) (0, 0) = some (bz (anyB (fun r => bq (M 21 (40 * s + 10 * r + i))) 4), nI 4) := by
    intro v2 s hs
    have hr := run2 (b := bM_sessionsOf_16 (nI i) v2 (nI s) M) (n := 4) (fun r => bz (anyB (fun r => bq (M 21 (40 * s + 10 * r + i))) r)) (fun r hr => ?_) ?_
    · exact hr
    · dsimp only [bM_sessionsOf_16, gM_sessionsOf_16]
      unfold fM_sessionsOf_47 fM_sessionsOf_52
      rw [if_neg (show ¬ (4 : Int32) ≤ nI r from nI_ltc hr (by decide)), xlt_eq, ix40, xgd_pos (vi_ (show 40 * s + 10 * r + i < 240 by omega) (by decide)), cl_ (by omega), xlt_eq, xlt_eq, nI_1]
      show _ = some (Sum.inr (bz (anyB (fun r => bq (M 21 (40 * s + 10 * r + i))) r || bq (M 21 (40 * s + 10 * r + i))), _))
      cases ha : anyB (fun r => bq (M 21 (40 * s + 10 * r + i))) r with
      | true => rw [if_neg (by decide)]; rfl
      | false =>
        rw [if_pos (by decide)]
        by_cases e : M 21 (40 * s + 10 * r + i) = 0
        · rw [if_pos e, e, bq_0]; rfl
        · rw [if_neg e, bq_t.mpr e]; rfl
    · dsimp only [bM_sessionsOf_16, gM_sessionsOf_16]; exact if_pos (Int32.le_refl (nI 4))
  have hr : xlp (bM_sessionsOf_4 (nI i) M) (0, 0) = some (nI (wcS (M 21) i), nI 6) := by
    refine run2 (n := 6) (fun n => nI (cnt (fun s => anyB (fun r => bq (M 21 (40 * s + 10 * r + i))) 4) n)) (fun s hs => ?_) ?_
    · dsimp only [bM_sessionsOf_4, gM_sessionsOf_4]
      rw [if_neg (show ¬ (6 : Int32) ≤ nI s from nI_ltc hs (by decide)), inner _ s hs, xbd_eq]
      unfold fM_sessionsOf_60 fM_sessionsOf_72
      rw [xlt_eq, xlt_eq, nI_1 s, cntI_step]
      cases anyB (fun r => bq (M 21 (40 * s + 10 * r + i))) 4 with
      | false => rw [if_pos (by decide), if_neg (by decide)]
      | true => rw [if_neg (by decide), if_pos (by decide)]
    · dsimp only [bM_sessionsOf_4, gM_sessionsOf_4]; exact if_pos (Int32.le_refl (nI 6))
  unfold fM_sessionsOf
  rw [hr, xbd_eq]; rfl
theorem xM_may {M : Mem} {q pa : Nat → Nat → Nat} (hF : rF (M 17) (M 18) q pa) (hq : ∀ s k, s < 6 → k < 144 → q s k ≤ 40) (hpa : ∀ s k, s < 6 → k < 144 → q s k ≠ 0 → pa s k < 9) {s r i : Nat} (hs : s < 6) (hr : r < 4) (hi : i < 10) : fM_mayWatch (nI s) (nI r) (nI i) M = some (bz (tmP (M 19) (M 21) i && suP q pa (M 20) s r i)) := by
  have loop : ∀ z0 : Bool, xlp (bM_mayWatch_27 (nI s) (nI r) (nI i) M) (bz (z0 && !anyB (fun k => decide (q s (36 * r + k) ≠ 0) && bq (M 20 (9 * i + pa s (36 * r + k)))) 0), nI (36 * r)) = some (bz (z0 && !anyB (fun k => decide (q s (36 * r + k) ≠ 0) && bq (M 20 (9 * i + pa s (36 * r + k)))) 36), nI (36 * r + 36)) := by
    intro z0
    refine runA (n := 36) (36 * r) (fun n => bz (z0 && !anyB (fun k => decide (q s (36 * r + k) ≠ 0) && bq (M 20 (9 * i + pa s (36 * r + k)))) n)) (fun k hk => ?_) ?_
    · dsimp only [bM_mayWatch_27, gM_mayWatch_27]
      have hk' : 36 * r + k < 144 := by omega
      rw [show (36 : Int32) * nI r + 36 = nI (36 * r + 36) by show nI 36 * nI r + nI 36 = _; rw [pk_mul, nI_add], if_neg (nI_ltc (show 36 * r + k < 36 * r + 36 by omega) (by omega))]
      unfold fM_mayWatch_86 fM_mayWatch_90 fM_mayWatch_91
      simp only [xlt_eq, ix144, nI_1 (36 * r + k), xgd_pos (vi_ (show 144 * s + (36 * r + k) < 864 by omega) (show 864 < 100000 by decide)), cl_ (show 144 * s + (36 * r + k) < 100000 by omega), (hF s _ hs hk').1]
      show _ = some (Sum.inr (bz (z0 && !(anyB (fun k => decide (q s (36 * r + k) ≠ 0) && bq (M 20 (9 * i + pa s (36 * r + k)))) k || (decide (q s (36 * r + k) ≠ 0) && bq (M 20 (9 * i + pa s (36 * r + k)))))), _))
      cases hz : (z0 && !anyB (fun k => decide (q s (36 * r + k) ≠ 0) && bq (M 20 (9 * i + pa s (36 * r + k)))) k) with
      | false =>
        rw [if_pos (by decide)]
        rw [show (z0 && !(anyB (fun k => decide (q s (36 * r + k) ≠ 0) && bq (M 20 (9 * i + pa s (36 * r + k)))) k || (decide (q s (36 * r + k) ≠ 0) && bq (M 20 (9 * i + pa s (36 * r + k)))))) = false by
          rw [Bool.not_or, ← Bool.and_assoc, hz, Bool.false_and]]
        rfl
      | true =>
        rw [if_neg (by decide)]
        rw [show (z0 && !(anyB (fun k => decide (q s (36 * r + k) ≠ 0) && bq (M 20 (9 * i + pa s (36 * r + k)))) k || (decide (q s (36 * r + k) ≠ 0) && bq (M 20 (9 * i + pa s (36 * r + k)))))) = !(decide (q s (36 * r + k) ≠ 0) && bq (M 20 (9 * i + pa s (36 * r + k)))) by
          rw [Bool.not_or, ← Bool.and_assoc, hz, Bool.true_and]]
        have hq1 := hq s _ hs hk'
        by_cases e : q s (36 * r + k) = 0
        · rw [if_pos (by rw [e]; rfl), show (!(decide (q s (36 * r + k) ≠ 0) && bq (M 20 (9 * i + pa s (36 * r + k))))) = true by simp [e]]; rfl
        · have hp := hpa s _ hs hk' e
          rw [if_neg (fun e9 => e ((nI_zero (by omega)).mp e9)), (hF s _ hs hk').2 e, ix9, xgd_pos (vi_ (show 9 * i + pa s (36 * r + k) < 90 by omega) (by decide)), cl_ (show 9 * i + pa s (36 * r + k) < 100000 by omega), decide_eq_true e, Bool.true_and]
          by_cases e2 : M 20 (9 * i + pa s (36 * r + k)) = 0
          · rw [if_pos e2, e2, bq_0]; rfl
          · rw [if_neg e2, bq_t.mpr e2]; rfl
    · dsimp only [bM_mayWatch_27, gM_mayWatch_27]
      rw [show (36 : Int32) * nI r + 36 = nI (36 * r + 36) by show nI 36 * nI r + nI 36 = _; rw [pk_mul, nI_add]]
      exact if_pos (Int32.le_refl _)
  have ends : ∀ z0 : Bool, fM_mayWatch_19 (nI s) (nI r) (nI i) (bz z0) M = some (bz (z0 && suP q pa (M 20) s r i)) := by
    intro z0
    unfold fM_mayWatch_19
    have h := loop z0
    rw [show (z0 && !anyB (fun k => decide (q s (36 * r + k) ≠ 0) && bq (M 20 (9 * i + pa s (36 * r + k)))) 0) = z0 by show (z0 && !false) = z0; cases z0 <;> rfl] at h
    rw [xlt_eq, show (36 : Int32) * nI r = nI (36 * r) by show nI 36 * nI r = _; rw [pk_mul], h, xbd_eq]
    exact xgd_pos (bz_01 _) _
  unfold fM_mayWatch tmP
  rw [xM_sessionsOf M hi, xbd_eq, xgd_pos (vi_ hi (by decide)), cl_ (by omega)]
  by_cases e : M 19 i ≤ nI (wcS (M 21) i)
  · rw [if_pos e, decide_eq_true e]; exact ends false
  · rw [if_neg e, decide_eq_false e]; exact ends true
theorem xM_sitting {M : Mem} {q pa : Nat → Nat → Nat} (hF : rF (M 17) (M 18) q pa) (hq : ∀ s k, s < 6 → k < 144 → q s k ≤ 40) {s r : Nat} (hs : s < 6) (hr : r < 4) : fM_sitting (nI s) (nI r) M = some (nI (cnt (sitP q s r) 36)) := by
  have hrun : xlp (bM_sitting_8 (nI s) (nI r) M) (nI (cnt (sitP q s r) 0), nI (36 * r)) = some (nI (cnt (sitP q s r) 36), nI (36 * r + 36)) := by
    refine runA (n := 36) (36 * r) (fun i => nI (cnt (sitP q s r) i)) (fun k hk => ?_) ?_
    · dsimp only [bM_sitting_8, gM_sitting_8]
      have hk' : 36 * r + k < 144 := by omega
      have hq1 := hq s _ hs hk'
      unfold fM_sitting_43
      rw [show (36 : Int32) * nI r + 36 = nI (36 * r + 36) by show nI 36 * nI r + nI 36 = _; rw [pk_mul, nI_add], if_neg (nI_ltc (show 36 * r + k < 36 * r + 36 by omega) (by omega))]
      simp only [xlt_eq, ix144, nI_1 (36 * r + k)]
      rw [xgd_pos (vi_ (show 144 * s + (36 * r + k) < 864 by omega) (by decide)), cl_ (show 144 * s + (36 * r + k) < 100000 by omega), (hF s _ hs hk').1, cntI_step]
      unfold sitP
      by_cases e : q s (36 * r + k) = 0
      · rw [e, if_pos (by decide), if_neg (by decide)]; rfl
      · rw [if_neg (nI_nle (by omega) (by omega)), if_pos (by simp [e])]; rfl
    · dsimp only [bM_sitting_8, gM_sitting_8]
      rw [show (36 : Int32) * nI r + 36 = nI (36 * r + 36) by show nI 36 * nI r + nI 36 = _; rw [pk_mul, nI_add]]
      exact if_pos (Int32.le_refl _)
  unfold fM_sitting
  rw [xlt_eq, show (36 : Int32) * nI r = nI (36 * r) by show nI 36 * nI r = _; rw [pk_mul]]
  show xbd (xlp _ (nI (cnt (sitP q s r) 0), _)) _ = _
  rw [hrun, xbd_eq]; rfl
def ndR (q : Nat → Nat → Nat) (s r : Nat) : Nat := (cnt (sitP q s r) 36 + 7) / 8
theorem ndR_le (q : Nat → Nat → Nat) (s r : Nat) : ndR q s r ≤ 5 := by
  have := cnt_le (sitP q s r) 36
  unfold ndR; omega
theorem nd_M {n : Nat} (h : n ≤ 36) : (nI n + 7) / 8 = nI ((n + 7) / 8) := by
  rw [show nI n + 7 = nI (n + 7) from nI_add n 7]
  exact pk_div (d := 8) (by omega) (by decide) (by decide)
theorem nd_X {n : Nat} (h : n ≤ 36) : fO_needed (nI n) = some (nI ((n + 7) / 8)) := by
  unfold fO_needed
  rw [show nI n + 8 = nI (n + 7 + 1) from nI_add n 8, nI_pred]
  exact congrArg some (pk_div (d := 8) (by omega) (by decide) (by decide))
/-- the places are laid room by room -/
def cum (q : Nat → Nat → Nat) (s r : Nat) : Nat := sm (ndR q s) r
theorem cum_s (q : Nat → Nat → Nat) (s r : Nat) : cum q s (r + 1) = cum q s r + ndR q s r := rfl
theorem cum_le (q : Nat → Nat → Nat) (s : Nat) : ∀ r, cum q s r ≤ 5 * r
  | 0 => Nat.le_refl _
  | r + 1 => by have := cum_le q s r; have := ndR_le q s r; rw [cum_s]; omega
theorem cum_mono (q : Nat → Nat → Nat) (s : Nat) {a b : Nat} (h : a ≤ b) : cum q s a ≤ cum q s b := by
  obtain ⟨d, rfl⟩ := Nat.exists_eq_add_of_le h
  induction d with
  | zero => exact Nat.le_refl _
  | succ d ih => have := ih (by omega); rw [← Nat.add_assoc, cum_s]; omega
theorem xM_places {M : Mem} {q pa : Nat → Nat → Nat} (hF : rF (M 17) (M 18) q pa) (hq : ∀ s k, s < 6 → k < 144 → q s k ≤ 40) {s : Nat} (hs : s < 6) : ∃ M', xlp (bM_watch_47 (nI s)) (0, 0, M) = some (nI (cum q s 4), nI 4, M') ∧ (∀ j, j ≠ 22 → M' j = M j) ∧ (∀ r j, r < 4 → cum q s r ≤ j → j < cum q s (r + 1) → M' 22 j = nI r) := by
  have inner : ∀ (r a : Nat) (N : Mem), r < 4 → a ≤ 15 → ∃ N', xlp (bM_watch_69 (nI s) (nI r) (nI (ndR q s r))) (nI a, 0, N) = some (nI (a + ndR q s r), nI (ndR q s r), N') ∧ (∀ j, j ≠ 22 → N' j = N j) ∧ (∀ j, j < a → N' 22 j = N 22 j) ∧ (∀ j, a ≤ j → j < a + ndR q s r → N' 22 j = nI r) := by
    intro r a N hr ha
    have hn := ndR_le q s r
    have h := xlp_inv (b := bM_watch_69 (nI s) (nI r) (nI (ndR q s r))) (fun i (st : Int32 × Int32 × Mem) => ∃ N', st = (nI (a + i), nI i, N') ∧ (∀ j, j ≠ 22 → N' j = N j) ∧ (∀ j, j < a → N' 22 j = N 22 j) ∧ (∀ j, a ≤ j → j < a + i → N' 22 j = nI r)) (fun t => ∃ N', t = (nI (a + ndR q s r), nI (ndR q s r), N') ∧ (∀ j, j ≠ 22 → N' j = N j) ∧ (∀ j, j < a → N' 22 j = N 22 j) ∧ (∀ j, a ≤ j → j < a + ndR q s r → N' 22 j = nI r)) (ndR q s r) ?_ (nI a, 0, N) ⟨N, rfl, fun _ _ => rfl, fun _ _ => rfl, fun j h1 h2 => by omega⟩
    · obtain ⟨t, t1, N', rfl, t2⟩ := h
      exact ⟨N', t1, t2⟩
    · rintro i st hi ⟨N', rfl, f1, f2, f3⟩
      dsimp only [bM_watch_69, gM_watch_69]
      by_cases e : i = ndR q s r
      · subst e
        exact Or.inl ⟨_, if_pos (Int32.le_refl _), N', rfl, f1, f2, f3⟩
      · have hi' : i < ndR q s r := by omega
        refine Or.inr ⟨hi', ?_⟩
        rw [if_neg (nI_ltc hi' (by omega)), xgd_pos (vi_ (show a + i < 41 by omega) (by decide)), cl_ (show a + i < 100000 by omega)]
        simp only [xlt_eq, nI_1]
        refine ⟨_, rfl, up2 N' 22 (a + i) (nI r), by rw [Nat.add_assoc], fun j hj => by rw [up2_ne hj]; exact f1 j hj, fun j hj => by rw [up2_same, pk_un (by omega)]; exact f2 j hj, fun j h1 h2 => ?_⟩
        rw [up2_same]
        by_cases e2 : j = a + i
        · subst e2; exact pk_us
        · rw [pk_un e2]; exact f3 j h1 (by omega)
  have h := xlp_inv (b := bM_watch_47 (nI s)) (fun r (st : Int32 × Int32 × Mem) => ∃ N', st = (nI (cum q s r), nI r, N') ∧ (∀ j, j ≠ 22 → N' j = M j) ∧ (∀ r' j, r' < r → cum q s r' ≤ j → j < cum q s (r' + 1) → N' 22 j = nI r')) (fun t => ∃ N', t = (nI (cum q s 4), nI 4, N') ∧ (∀ j, j ≠ 22 → N' j = M j) ∧ (∀ r' j, r' < 4 → cum q s r' ≤ j → j < cum q s (r' + 1) → N' 22 j = nI r')) 4 ?_ (0, 0, M) ⟨M, rfl, fun _ _ => rfl, fun r' j h => absurd h (Nat.not_lt_zero r')⟩
  · obtain ⟨t, t1, N', rfl, t2, t3⟩ := h
    exact ⟨N', t1, t2, t3⟩
  · rintro r st hr ⟨N', rfl, f1, f2⟩
    dsimp only [bM_watch_47, gM_watch_47]
    by_cases e : r = 4
    · subst e
      exact Or.inl ⟨_, if_pos (Int32.le_refl (nI 4)), N', rfl, f1, f2⟩
    · have hr' : r < 4 := by omega
      refine Or.inr ⟨hr', ?_⟩
      have hF' : rF (N' 17) (N' 18) q pa := by rw [f1 17 (by decide), f1 18 (by decide)]; exact hF
      have hc := cum_le q s r
      rw [if_neg (show ¬ (4 : Int32) ≤ nI r from nI_ltc hr' (by decide)), xM_sitting hF' hq hs hr', xbd_eq, xlt_eq, nd_M (cnt_le _ 36)]
      obtain ⟨N2, n1, n2, n3, n4⟩ := inner r (cum q s r) N' hr' (by omega)
      show ∃ s', xbd (xlp (bM_watch_69 (nI s) (nI r) (nI (ndR q s r))) (nI (cum q s r), 0, N')) _ = _ ∧ _
      rw [n1, xbd_eq]
      unfold fM_watch_92
      rw [xlt_eq, nI_1]
      refine ⟨_, rfl, N2, by rw [cum_s], fun j hj => (n2 j hj).trans (f1 j hj), fun r' j h1 h2 h3 => ?_⟩
      by_cases e2 : r' = r
      · subst e2; exact n4 j h2 (by rw [← cum_s]; exact h3)
      · have := cum_mono q s (show r' + 1 ≤ r by omega)
        rw [n3 j (by omega)]; exact f2 r' j (by omega) h2 h3
