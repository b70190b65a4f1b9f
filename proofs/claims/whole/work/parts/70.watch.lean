/-! ===== watch ===== -/
def yC (y : Nat → Int32) (s : Nat) : Nat → Int32 := fun n => if 40 * s ≤ n ∧ n < 40 * s + 40 then 0 else y n
theorem yC_in {y : Nat → Int32} {s r i : Nat} (hr : r < 4) (hi : i < 10) : yC y s (40 * s + 10 * r + i) = 0 := if_pos (by omega)
theorem yC_out {y : Nat → Int32} {s s' r i : Nat} (h : s' ≠ s) (hr : r < 4) (hi : i < 10) : yC y s (40 * s' + 10 * r + i) = y (40 * s' + 10 * r + i) := if_neg (by omega)
theorem clr_M {s : Nat} (hs : s < 6) (Y : Mem) : ∃ v M', xlp (bM_watch_19 (nI s)) (nI (40 * s), Y) = some (v, M') ∧ (∀ j, j ≠ 21 → M' j = Y j) ∧ M' 21 = yC (Y 21) s := by
  have h := xlp_inv (b := bM_watch_19 (nI s)) (fun i (st : Int32 × Mem) => ∃ N, st = (nI (40 * s + i), N) ∧ (∀ j, j ≠ 21 → N j = Y j) ∧ ∀ n, N 21 n = if 40 * s ≤ n ∧ n < 40 * s + i then 0 else Y 21 n) (fun t => ∃ v N, t = (v, N) ∧ (∀ j, j ≠ 21 → N j = Y j) ∧ N 21 = yC (Y 21) s) 40 ?_ (nI (40 * s), Y) ⟨Y, rfl, fun _ _ => rfl, fun n => by rw [if_neg (by omega)]⟩
  · obtain ⟨t, t1, v, N, rfl, t2⟩ := h
    exact ⟨v, N, t1, t2⟩
  · rintro i st hi ⟨N, rfl, f1, f2⟩
    dsimp only [bM_watch_19, gM_watch_19]
    rw [show (40 : Int32) * nI s + 40 = nI (40 * s + 40) by show nI 40 * nI s + nI 40 = _; rw [pk_mul, nI_add]]
    by_cases e : i = 40
    · subst e
      exact Or.inl ⟨_, if_pos (Int32.le_refl _), _, N, rfl, f1, by funext n; exact f2 n⟩
    · refine Or.inr ⟨by omega, ?_⟩
      rw [if_neg (nI_ltc (show 40 * s + i < 40 * s + 40 by omega) (by omega)), xgd_pos (vi_ (show 40 * s + i < 240 by omega) (by decide)), cl_ (show 40 * s + i < 100000 by omega), show vp_nar .boolean 0 = 0 from bz_nar false]
      simp only [xlt_eq, nI_1]
      refine ⟨_, rfl, _, by rw [Nat.add_assoc], fun j hj => by rw [up2_ne hj]; exact f1 j hj, fun n => ?_⟩
      rw [up2_same]
      by_cases e2 : n = 40 * s + i
      · subst e2; rw [pk_us, if_pos (by omega)]
      · rw [pk_un e2, f2 n]
        by_cases c : 40 * s ≤ n ∧ n < 40 * s + i
        · rw [if_pos c, if_pos (by omega)]
        · rw [if_neg c, if_neg (by omega)]
theorem qW_clr {X Y : Mem} (hW : qW X Y) {s : Nat} (hs : s < 6) {Y1 : Mem} (h21 : Y1 21 = yC (Y 21) s) : qW (upA X (48 + s) 4 0) Y1 := by
  refine ⟨fun s' r hs' hr => ?_, fun k hk => ?_, fun s' i hs' hi r r' hr hr' h1 h2 => ?_⟩
  · rw [seg_at _ hs', h21]
    by_cases e : s' = s
    · subst e
      rw [upA_in hr]
      unfold wY
      rw [sO_z (fun i hi => by rw [yC_in hr hi]; exact bq_0)]
      rfl
    · rw [upA_ne (by omega)]
      have := hW.1 s' r hs' hr
      rw [seg_at _ hs'] at this
      rw [this]
      congr 1
      exact sO_ext (fun i hi => by rw [yC_out e hr hi])
  · rw [h21]; unfold yC
    by_cases c : 40 * s ≤ k ∧ k < 40 * s + 40
    · rw [if_pos c]; exact Or.inl rfl
    · rw [if_neg c]; exact hW.2.1 k hk
  · rw [h21] at h1 h2
    by_cases e : s' = s
    · subst e; rw [yC_in hr hi] at h1; exact absurd rfl h1
    · rw [yC_out e hr hi] at h1
      rw [yC_out e hr' hi] at h2
      exact hW.2.2 s' i hs' hi r r' hr hr' h1 h2
theorem prep_X {X Y : Mem} {q pa : Nat → Nat → Nat} (hC : qC X q pa) (h14 : r14 (X 46) (Y 20)) {s : Nat} (hs : s < 6) (v3 : Int32) : ∃ v M', xlp (bO_staff_18 (nI s) v3) (0, X) = some (v, M') ∧ (∀ r, r < 4 → M' 54 r = nI (ndR q s r)) ∧ (∀ r, r < 4 → M' 55 r = nI (sO (suP q pa (Y 20) s r) 10)) ∧ (∀ j, j ≠ 54 → j ≠ 55 → M' j = X j) := by
  have hpa : ∀ s k, s < 6 → k < 144 → q s k ≠ 0 → pa s k < 9 := fun s k hs hk h => (((hC s hs).1 k hk).2.2.1 h).1
  have h := xlp_inv (b := bO_staff_18 (nI s) v3) (fun r (st : Int32 × Mem) => ∃ N, st = (nI r, N) ∧ (∀ r', r' < r → N 54 r' = nI (ndR q s r')) ∧ (∀ r', r' < r → N 55 r' = nI (sO (suP q pa (Y 20) s r') 10)) ∧ (∀ j, j ≠ 54 → j ≠ 55 → N j = X j)) (fun t => ∃ v N, t = (v, N) ∧ (∀ r', r' < 4 → N 54 r' = nI (ndR q s r')) ∧ (∀ r', r' < 4 → N 55 r' = nI (sO (suP q pa (Y 20) s r') 10)) ∧ (∀ j, j ≠ 54 → j ≠ 55 → N j = X j)) 4 ?_ (0, X) ⟨X, rfl, fun r' h => absurd h (Nat.not_lt_zero r'), fun r' h => absurd h (Nat.not_lt_zero r'), fun _ _ _ => rfl⟩
  · obtain ⟨t, t1, v, N, rfl, t2⟩ := h
    exact ⟨v, N, t1, t2⟩
  · rintro r st hr ⟨N, rfl, f1, f2, f3⟩
    dsimp only [bO_staff_18, gO_staff_18]
    by_cases e : r = 4
    · subst e
      exact Or.inl ⟨_, if_pos (Int32.le_refl (nI 4)), _, N, rfl, f1, f2, f3⟩
    · have hr' : r < 4 := by omega
      refine Or.inr ⟨hr', ?_⟩
      have seg_c : ∀ M : Mem, (∀ j, j ≠ 54 → j ≠ 55 → M j = X j) → qC M q pa := fun M hM => by
        show rS _ _ _ _ _
        rw [seg_eq (X := X) (fun j h1 h2 => hM j (by omega) (by omega)), seg_eq (X := X) (fun j h1 h2 => hM j (by omega) (by omega)), seg_eq (X := X) (fun j h1 h2 => hM j (by omega) (by omega))]
        exact hC
      have f4 : ∀ j, j ≠ 54 → j ≠ 55 → up2 N 54 r (nI (ndR q s r)) j = X j := fun j h1 h2 => by rw [up2_ne h1]; exact f3 j h1 h2
      rw [if_neg (show ¬ (4 : Int32) ≤ nI r from nI_ltc hr' (by decide)), xR_sitters (seg_c N f3) hs hr', xbd_eq, nd_X (cnt_le _ 36), xbd_eq, xgd_pos (vi_ hr' (by decide)), xlt_eq, cl_ (show r < 100000 by omega)]
      show ∃ s', xbd (fR_papersIn (nI s) (nI r) (up2 N 54 r (nI (ndR q s r)))) _ = _ ∧ _
      rw [xR_papers (seg_c _ f4) hs hr', xbd_eq, xO_without (Y := Y) (by have h9 := f4 46 (by decide) (by decide); unfold ndR at h9; rw [h9]; exact h14) hpa hs hr', xbd_eq, xgd_pos (vi_ hr' (by decide)), xlt_eq, xlt_eq, nI_1]
      refine ⟨_, rfl, _, rfl, fun r' h1 => ?_, fun r' h1 => ?_, fun j h1 h2 => by rw [up2_ne h2]; exact f4 j h1 h2⟩
      · rw [up2_ne (by decide)]
        rw [up2_same]
        by_cases e2 : r' = r
        · subst e2; exact pk_us
        · rw [pk_un e2]; exact f1 r' (by omega)
      · rw [up2_same]
        by_cases e2 : r' = r
        · subst e2; exact pk_us
        · rw [pk_un e2, up2_ne (by decide)]; exact f2 r' (by omega)
section WF
variable {S : Nat → Nat → Bool} {tm : Nat → Bool} {q : Nat → Nat → Nat} {s : Nat} {y : Nat → Int32}
theorem yK_far (h0 : cb S tm q s 0 0 = true) {s' r i : Nat} (hne : s' ≠ s) (hr : r < 4) (hi : i < 10) : ∀ k, k ≤ cum q s 4 → yK S tm q s y k (40 * s' + 10 * r + i) = y (40 * s' + 10 * r + i)
  | 0, _ => rfl
  | k + 1, hk => by
    have hc := cK_lt h0 (show k < cum q s 4 by omega)
    have hp := (plc_in (show k < cum q s 4 by omega)).1
    show upd (yK S tm q s y k) (40 * s + 10 * plc q s k + cK S tm q s k (tK S tm q s k)) 1 _ = _
    rw [pk_un (by omega)]
    exact yK_far h0 hne hr hi k (by omega)
theorem yK_isB (hy : ∀ k, k < 240 → isB (y k)) : ∀ k n, n < 240 → isB (yK S tm q s y k n)
  | 0, n, hn => hy n hn
  | k + 1, n, hn => by
    show isB (upd (yK S tm q s y k) (40 * s + 10 * plc q s k + cK S tm q s k (tK S tm q s k)) 1 n)
    by_cases e : n = 40 * s + 10 * plc q s k + cK S tm q s k (tK S tm q s k)
    · rw [e, pk_us]; exact Or.inr rfl
    · rw [pk_un e]; exact yK_isB hy k n hn
theorem yK_one (h0 : cb S tm q s 0 0 = true) (hy : ∀ r i, r < 4 → i < 10 → y (40 * s + 10 * r + i) = 0) : ∀ k, k ≤ cum q s 4 → (∀ r i, r < 4 → i < 10 → yK S tm q s y k (40 * s + 10 * r + i) ≠ 0 → (tK S tm q s k).testBit i = true) ∧ (∀ i, i < 10 → ∀ r r', r < 4 → r' < 4 → yK S tm q s y k (40 * s + 10 * r + i) ≠ 0 → yK S tm q s y k (40 * s + 10 * r' + i) ≠ 0 → r = r')
  | 0, _ => ⟨fun r i hr hi h => absurd (hy r i hr hi) h, fun i hi r r' hr _ h => absurd (hy r i hr hi) h⟩
  | k + 1, hk => by
    obtain ⟨a1, a2⟩ := yK_one h0 hy k (by omega)
    have hk4 : k < cum q s 4 := by omega
    obtain ⟨c1, c2, -⟩ := fN_some (cK_some h0 hk4)
    have hp := (plc_in hk4).1
    have hct : (tK S tm q s k).testBit (cK S tm q s k (tK S tm q s k)) = false := by
      unfold gdP at c2
      rw [Bool.and_eq_true, Bool.and_eq_true, Bool.and_eq_true] at c2
      have := c2.2.1
      rwa [Bool.not_eq_true'] at this
    have key : ∀ r i, r < 4 → i < 10 → yK S tm q s y (k + 1) (40 * s + 10 * r + i) ≠ 0 → (i = cK S tm q s k (tK S tm q s k) ∧ r = plc q s k) ∨ (i ≠ cK S tm q s k (tK S tm q s k) ∧ yK S tm q s y k (40 * s + 10 * r + i) ≠ 0) := by
      intro r i hr hi h
      have h' : upd (yK S tm q s y k) (40 * s + 10 * plc q s k + cK S tm q s k (tK S tm q s k)) 1 (40 * s + 10 * r + i) ≠ 0 := h
      by_cases e : 40 * s + 10 * r + i = 40 * s + 10 * plc q s k + cK S tm q s k (tK S tm q s k)
      · exact Or.inl ⟨by omega, by omega⟩
      · rw [pk_un e] at h'
        refine Or.inr ⟨fun e2 => ?_, h'⟩
        have := a1 r i hr hi h'
        rw [e2, hct] at this; cases this
    refine ⟨fun r i hr hi h => ?_, fun i hi r r' hr hr' h h' => ?_⟩
    · show (tK S tm q s k ||| 2 ^ cK S tm q s k (tK S tm q s k)).testBit i = true
      rw [Nat.testBit_or, Nat.testBit_two_pow]
      rcases key r i hr hi h with ⟨e, -⟩ | ⟨-, e⟩
      · simp [e]
      · rw [a1 r i hr hi e]; rfl
    · rcases key r i hr hi h with ⟨e1, e2⟩ | ⟨e1, e2⟩
      · rcases key r' i hr' hi h' with ⟨g1, g2⟩ | ⟨g1, g2⟩
        · rw [e2, g2]
        · exact absurd e1 g1
      · rcases key r' i hr' hi h' with ⟨g1, g2⟩ | ⟨g1, g2⟩
        · exact absurd g1 e1
        · exact a2 i hi r r' hr hr' e2 g2
end WF
theorem Rel_W {X X' Y Y' : Mem} (h : Rel X Y) (hX : ∀ j, j < 48 → X' j = X j) (hY : ∀ j, j ≠ 0 → j < 21 → Y' j = Y j) (h0 : Y' 0 7 = Y 0 7) (hW' : qW X' Y') (h16 : Y 0 7 = 0 → ∀ k, k < 240 → Y' 21 k = 0) : Rel X' Y' := by
  obtain ⟨q, pa, hT, hP, hB, hS, hO, hW, g16⟩ := h
  exact ⟨q, pa, qT_c (fun j h1 h2 => hX j (by omega)) (fun j h1 h2 => hY j (by omega) (by omega)) hT, qP_c (fun j hj => hX j (by omega)) h0 (hY 7 (by decide) (by decide)) hP, qB_c (fun j h1 h2 => hX j (by omega)) (fun j h1 h2 => hY j (by omega) (by omega)) hB, qS_c (fun j h1 h2 => hX j (by omega)) (hY 17 (by decide) (by decide)) (hY 18 (by decide) (by decide)) hS, qO_c (hX 45 (by decide)) (hX 46 (by decide)) (hY 19 (by decide) (by decide)) (hY 20 (by decide) (by decide)) hO, hW', by rw [h0]; exact fun e => ⟨(g16 e).1, h16 e⟩⟩
theorem sim_18 : Sm18 Rel := by
  intro X Y h a1
  rcases oo_ix a1 (n := 6) (by decide) with h1 | ⟨s, hs, rfl⟩
  · refine Or.inr ⟨0, up2 Y 0 0 1, ?_, ?_, up2_at _ _ _ _, Rel_t h⟩
    · unfold kE_watch; rw [eE_Session0 h1, xbd_eq, if_pos rfl]
    · unfold fM_watch; rw [eM_Session0 h1, xbd_eq, g0, xbd_eq, if_pos rfl]; exact xgd_pos (by decide) _
  obtain ⟨q, pa, hT, hP, hB, hS, hO, hW, h16⟩ := id h
  have hq40 : ∀ s k, s < 6 → k < 144 → q s k ≤ 40 := fun s k hs hk => ((hS.1 s hs).1 k hk).1
  have hpa : ∀ s k, s < 6 → k < 144 → q s k ≠ 0 → pa s k < 9 := fun s k hs hk h => (((hS.1 s hs).1 k hk).2.2.1 h).1
  -- the reference clears the session's watches and lays the places
  obtain ⟨v1, Y1, y1, y2, y3⟩ := clr_M hs (up2 Y 0 0 0)
  have y3' : Y1 21 = yC (Y 21) s := y3
  have fy : ∀ j, j ≠ 0 → j ≠ 21 → Y1 j = Y j := fun j h0 h1 => by rw [y2 j h1, up2_ne h0]
  have fy0 : Y1 0 = up2 Y 0 0 0 0 := y2 0 (by decide)
  obtain ⟨Y2, p1, p2, p3⟩ := xM_places (M := Y1) (q := q) (pa := pa) (by rw [fy 17 (by decide) (by decide), fy 18 (by decide) (by decide)]; exact hS.2) hq40 hs
  have eM : fM_watch (nI s) Y = fM_watch_98 (nI s) (nI (cum q s 4)) Y2 := by
    unfold fM_watch fM_watch_43
    rw [eM_Session hs, xbd_eq, g11, xbd_eq, if_neg n10, xlt_eq, show (40 : Int32) * nI s = nI (40 * s) by show nI 40 * nI s = _; rw [pk_mul], y1, xbd_eq, p1, xbd_eq]
  -- the class
  have hW1 : qW (upA X (48 + s) 4 0) Y1 := qW_clr hW hs y3'
  have fx : ∀ j, j ≠ 48 + s → upA X (48 + s) 4 0 j = X j := fun j hj => upA_ne hj
  have hC1 : qC (upA X (48 + s) 4 0) q pa := by
    show rS _ _ _ _ _
    rw [seg_eq (X := X) (fun j h1 h2 => fx j (by omega)), seg_eq (X := X) (fun j h1 h2 => fx j (by omega)), seg_eq (X := X) (fun j h1 h2 => fx j (by omega))]
    exact hS.1
  have time := xO_time hW1 (show r13 (upA X (48 + s) 4 0 45) (Y1 19) by rw [fx 45 (by omega), fy 19 (by decide) (by decide)]; exact hO.1)
  obtain ⟨v2, X2, x1, x2, x3, x4⟩ := prep_X (Y := Y1) hC1 (by rw [fx 46 (by omega), fy 20 (by decide) (by decide)]; exact hO.2) hs (nI (sO (tmP (Y1 19) (Y1 21)) 10))
  have eE : fE_watch (nI s) X = xbd (fO_staff_65 (nI s) (nI (sO (tmP (Y1 19) (Y1 21)) 10)) X2) (fun r3 => xgd (r3.1 = 0 ∨ r3.1 = 1) (some (r3.1, r3.2))) := by
    unfold fE_watch fO_staff
    rw [eE_Session hs, xbd_eq, me1, xbd_eq, xgd_pos (vi_ hs (by decide)), cl_ (show s < 100000 by omega), show (47 : Nat) + 1 + s = 48 + s by omega, xlt_eq, time, xbd_eq, x1, xbd_eq]
  obtain ⟨z, z1, z2⟩ := xO_enough (X := X2) (S := suP q pa (Y1 20) s) (F := sO (tmP (Y1 19) (Y1 21)) 10) (m := ndR q s) (sO_lt _ 10) (fun r _ => ndR_le q s r) x2 x3
  have z3 : z = cb (suP q pa (Y1 20) s) (tmP (Y1 19) (Y1 21)) q s 0 0 := by
    have hF : ∀ n, n < 10 → (sO (tmP (Y1 19) (Y1 21)) 10).testBit n = (tmP (Y1 19) (Y1 21) n && !(0 : Nat).testBit n) := fun n hn => by
      rw [sO_bit, decide_eq_true hn, Nat.zero_testBit]; simp
    cases hz : z with
    | true => exact (cb_t.mpr (Hall_ext (fun _ _ _ _ => rfl) hF (fun r _ => rest_0.symm) (z2.mp hz))).symm
    | false =>
      symm
      rw [Bool.eq_false_iff]
      intro e
      have := z2.mpr (Hall_ext (fun _ _ _ _ => rfl) (fun n hn => (hF n hn).symm) (fun r _ => rest_0) (cb_t.mp e))
      rw [hz] at this; cases this
  have fY2 : ∀ j, j ≠ 0 → j ≠ 21 → j ≠ 22 → Y2 j = Y j := fun j h0 h1 h2 => (p2 j h2).trans (fy j h0 h1)
  have fY20 : Y2 0 = up2 Y 0 0 0 0 := (p2 0 (by decide)).trans fy0
  have fY221 : Y2 21 = yC (Y 21) s := (p2 21 (by decide)).trans y3'
  -- no: the answer is false, and the session has no watches
  have nay : z = false → ∀ N : Mem, (∀ j, j ≠ 23 → N j = Y2 j) → fM_watch (nI s) Y = some (0, N) → simW1 Rel (fE_watch (nI s)) (kE_watch (nI s)) (fM_watch (nI s)) X Y := by
    intro hz N hN eN
    have zero : Y 0 7 = 0 → ∀ k, k < 240 → yC (Y 21) s k = 0 := fun e k hk => by
      unfold yC
      by_cases c : 40 * s ≤ k ∧ k < 40 * s + 40
      · rw [if_pos c]
      · rw [if_neg c]; exact (h16 e).2 k hk
    refine Or.inl ⟨0, X2, N, ?_, eN, ?_, Rel_W h (fun j hj => ?_) (fun j h0 hj => ?_) ?_ ?_ ?_⟩
    · rw [eE]; unfold fO_staff_65
      rw [z1, xbd_eq, hz, if_pos (by decide), xgd_pos (by decide), xbd_eq]
      exact xgd_pos (Or.inl rfl) _
    · rw [hN 0 (by decide), fY20]; exact up2_at _ _ _ _
    · rw [x4 j (by omega) (by omega), fx j (by omega)]
    · rw [hN j (by omega), fY2 j h0 (by omega) (by omega)]
    · rw [hN 0 (by decide), fY20]; rfl
    · exact qW_c (fun j h1 h2 => x4 j (by omega) (by omega)) (by rw [hN 21 (by decide), p2 21 (by decide)]) hW1
    · rw [hN 21 (by decide), fY221]; exact zero
  by_cases hmany : cum q s 4 ≤ 10
  · -- the table
    have h22 : ∀ k, k < cum q s 4 → Y2 22 k = nI (plc q s k) := fun k hk => by
      obtain ⟨q1, q2, q3⟩ := plc_in hk
      exact p3 _ k q1 q2 q3
    have hF2 : rF (Y2 17) (Y2 18) q pa := by rw [fY2 17 (by decide) (by decide) (by decide), fY2 18 (by decide) (by decide) (by decide)]; exact hS.2
    obtain ⟨Y3, f1, f2, f3, f4⟩ := fill23 (b := bM_watch_108 (nI s) (nI (cum q s 4))) (k := cum q s 4) (v := 1) (fun i N hi => by
      dsimp only [bM_watch_108, gM_watch_108]
      rw [if_neg (show ¬ (1024 : Int32) ≤ nI i from nI_ltc hi (by decide)), ixK, xgd_pos (vi_ (show 1024 * cum q s 4 + i < 41984 by omega) (by decide)), cl_ (show 1024 * cum q s 4 + i < 100000 by omega), show vp_nar .boolean 1 = 1 from bz_nar true]
      simp only [xlt_eq, nI_1]) (fun N => by dsimp only [bM_watch_108, gM_watch_108]; exact if_pos (Int32.le_refl (nI 1024))) Y2
    obtain ⟨v3, Y4, t1, t2, t3⟩ := xM_table (M := Y2) hF2 hq40 hpa hs h22 hmany f2 f3
    have e19 : Y2 19 = Y1 19 := p2 19 (by decide)
    have e20 : Y2 20 = Y1 20 := p2 20 (by decide)
    have e21 : Y2 21 = Y1 21 := p2 21 (by decide)
    rw [e19, e20, e21] at t3
    have eM2 : fM_watch (nI s) Y = fM_watch_301 (nI s) (nI (cum q s 4)) Y4 := by
      rw [eM]; unfold fM_watch_98
      rw [if_pos (show nI (cum q s 4) ≤ 10 from nI_le hmany (by decide)), f1, xbd_eq]
      unfold fM_watch_134
      rw [xlt_eq, t1, xbd_eq]
    have e0 : Y4 23 (0 : Int32).toNatClampNeg = bz z := by
      rw [z3]; exact t3 0 0 (Nat.zero_le _) (by decide)
    cases hz : z with
    | false =>
      refine nay hz Y4 t2 ?_
      rw [eM2]; unfold fM_watch_301
      rw [xgd_pos (show vp_in 0 41984 from vi_ (j := 0) (by decide) (by decide)), if_pos (by rw [e0, hz]; rfl)]
      exact xgd_pos (by decide) _
    | true =>
      have h0 : cb (suP q pa (Y1 20) s) (tmP (Y1 19) (Y1 21)) q s 0 0 = true := by rw [← z3, hz]
      have g19 : Y4 19 = Y1 19 := (t2 19 (by decide)).trans e19
      have g20 : Y4 20 = Y1 20 := (t2 20 (by decide)).trans e20
      have g21 : Y4 21 = Y1 21 := (t2 21 (by decide)).trans e21
      obtain ⟨Y5, w1, w2, w3⟩ := xM_given (M := Y4) (q := q) (pa := pa) (s := s) (by rw [t2 17 (by decide), t2 18 (by decide)]; exact hF2) hq40 hpa hs (fun k hk => by rw [t2 22 (by decide)]; exact h22 k hk) hmany (by rw [g19, g20, g21]; exact t3) (by rw [g19, g20, g21]; exact h0)
      rw [g19, g20, g21] at w3
      -- the class's rooms
      have hst : stK (suP q pa (Y1 20) s) (tmP (Y1 19) (Y1 21)) q s (Y1 21) X2 0 X2 := by
        refine ⟨fun r hr => by rw [rest_0]; exact x2 r hr, x3, fun r hr => ?_, fun _ _ _ => rfl⟩
        rw [x4 (48 + s) (by omega) (by omega)]
        have := hW1.1 s r hs hr
        rw [seg_at _ hs] at this
        exact this
      have loop : ∃ v w X3, xlp (bO_staff_78 (nI s)) (nI (sO (tmP (Y1 19) (Y1 21)) 10), 0, X2) = some (v, w, X3) ∧ stK (suP q pa (Y1 20) s) (tmP (Y1 19) (Y1 21)) q s (Y1 21) X2 (cum q s 4) X3 := by
        have hl := xlp_inv (b := bO_staff_78 (nI s)) (fun r (st : Int32 × Int32 × Mem) => ∃ N, st = (nI (nd (sO (tmP (Y1 19) (Y1 21)) 10) (tK (suP q pa (Y1 20) s) (tmP (Y1 19) (Y1 21)) q s (cum q s r))), nI r, N) ∧ stK (suP q pa (Y1 20) s) (tmP (Y1 19) (Y1 21)) q s (Y1 21) X2 (cum q s r) N) (fun t => ∃ v w N, t = (v, w, N) ∧ stK (suP q pa (Y1 20) s) (tmP (Y1 19) (Y1 21)) q s (Y1 21) X2 (cum q s 4) N) 4 ?_ (nI (sO (tmP (Y1 19) (Y1 21)) 10), 0, X2) ⟨X2, ?_, hst⟩
        · obtain ⟨t, t1, v, w, N, rfl, t2⟩ := hl
          exact ⟨v, w, N, t1, t2⟩
        · rintro r st hr ⟨N, rfl, hN⟩
          dsimp only [bO_staff_78, gO_staff_78]
          by_cases e : r = 4
          · subst e
            exact Or.inl ⟨_, if_pos (Int32.le_refl (nI 4)), _, _, N, rfl, hN⟩
          · have hr' : r < 4 := by omega
            refine Or.inr ⟨hr', ?_⟩
            obtain ⟨N', n1, n2⟩ := xO_staffRoom h0 hs hr' hN
            rw [if_neg (show ¬ (4 : Int32) ≤ nI r from nI_ltc hr' (by decide)), n1, xbd_eq, xlt_eq, nI_1]
            exact ⟨_, rfl, N', rfl, n2⟩
        · show (_, _, _) = (nI (nd _ (tK _ _ q s 0)), _, _)
          rw [show nd (sO (tmP (Y1 19) (Y1 21)) 10) (tK (suP q pa (Y1 20) s) (tmP (Y1 19) (Y1 21)) q s 0) = sO (tmP (Y1 19) (Y1 21)) 10 by
            apply Nat.eq_of_testBit_eq
            intro i
            rw [nd_bit, show tK (suP q pa (Y1 20) s) (tmP (Y1 19) (Y1 21)) q s 0 = 0 from rfl, Nat.zero_testBit]; simp]
          rfl
      obtain ⟨v4, v5, X3, l1, l2, l3, l4, l5⟩ := loop
      refine Or.inl ⟨1, X3, Y5, ?_, ?_, ?_, Rel_W h (fun j hj => ?_) (fun j h0' hj => ?_) ?_ ?_ ?_⟩
      · rw [eE]; unfold fO_staff_65
        rw [z1, xbd_eq, hz, if_neg (by decide), l1, xbd_eq]
        unfold fO_staff_99
        rw [xgd_pos (by decide), xbd_eq]
        exact xgd_pos (Or.inr rfl) _
      · rw [eM2]; unfold fM_watch_301
        rw [xgd_pos (show vp_in 0 41984 from vi_ (j := 0) (by decide) (by decide)), if_neg (by rw [e0, hz]; decide), w1, xbd_eq, if_neg n10]
        exact xgd_pos (by decide) _
      · rw [w2 0 (by decide), t2 0 (by decide), fY20]; exact up2_at _ _ _ _
      · rw [l5 j (by omega) (by omega), x4 j (by omega) (by omega), fx j (by omega)]
      · rw [w2 j (by omega), t2 j (by omega), fY2 j h0' (by omega) (by omega)]
      · rw [w2 0 (by decide), t2 0 (by decide), fY20]; rfl
      · refine ⟨fun s' r hs' hr => ?_, fun k hk => ?_, fun s' i hs' hi r r' hr hr' e1 e2 => ?_⟩
        · rw [seg_at _ hs', w3]
          by_cases e : s' = s
          · subst e; exact l4 r hr
          · rw [l5 (48 + s') (by omega) (by omega), x4 (48 + s') (by omega) (by omega)]
            have := hW1.1 s' r hs' hr
            rw [seg_at _ hs'] at this
            rw [this]
            congr 1
            exact sO_ext (fun i hi => by rw [yK_far h0 e hr hi _ (Nat.le_refl _)])
        · rw [w3]; exact yK_isB hW1.2.1 _ k hk
        · rw [w3] at e1 e2
          by_cases e : s' = s
          · subst e
            exact (yK_one h0 (fun r i hr hi => by rw [y3']; exact yC_in hr hi) _ (Nat.le_refl _)).2 i hi r r' hr hr' e1 e2
          · rw [yK_far h0 e hr hi _ (Nat.le_refl _)] at e1
            rw [yK_far h0 e hr' hi _ (Nat.le_refl _)] at e2
            exact hW1.2.2 s' i hs' hi r r' hr hr' e1 e2
      · intro e k hk
        have hz0 : cum q s 4 = 0 := by
          have hn : ∀ r, r < 4 → ndR q s r = 0 := fun r hr => by
            unfold ndR
            rw [cnt_0 (fun i hi => by unfold sitP; rw [(h16 e).1 s (36 * r + i) hs (by omega)]; rfl)]
          unfold cum
          simp only [sm]
          rw [hn 0 (by decide), hn 1 (by decide), hn 2 (by decide), hn 3 (by decide)]
        rw [w3, hz0]
        show Y1 21 k = 0
        rw [y3']; unfold yC
        by_cases c : 40 * s ≤ k ∧ k < 40 * s + 40
        · rw [if_pos c]
        · rw [if_neg c]; exact (h16 e).2 k hk
  · have hz : z = false := by
      rw [Bool.eq_false_iff]
      intro e
      have h1 := z2.mp e 15 (by decide)
      dsimp only at h1
      have h2 := cnt_le (fun i => (sO (tmP (Y1 19) (Y1 21)) 10).testBit i && grpN (suP q pa (Y1 20) s) 15 i) 10
      have h3 : grpM (ndR q s) 15 = cum q s 4 := by
        unfold grpM cum
        refine sm_ext (fun r hr => ?_)
        rcases (show r = 0 ∨ r = 1 ∨ r = 2 ∨ r = 3 by omega) with rfl | rfl | rfl | rfl <;> simp [Nat.testBit] <;> decide
      omega
    refine nay hz Y2 (fun _ _ => rfl) ?_
    rw [eM]; unfold fM_watch_98
    have hcm := cum_le q s 4
    rw [if_neg (show ¬ nI (cum q s 4) ≤ 10 from fun e9 => hmany ((nI_leI (by omega) (by decide)).mp e9))]
    exact xgd_pos (by decide) _
