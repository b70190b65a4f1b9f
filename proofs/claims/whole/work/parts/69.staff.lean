/-! ===== the class gives the places room by room ===== -/
theorem nd_lt {a b k : Nat} (h : a < 2 ^ k) : nd a b < 2 ^ k := Nat.lt_of_le_of_lt (nd_le a b) h
theorem nd_wit (F T i : Nat) : wit (nd F T) i false = nd F (T ||| 2 ^ i) := by
  apply Nat.eq_of_testBit_eq
  intro j
  rw [wit_bit, nd_bit, nd_bit, Nat.testBit_or, Nat.testBit_two_pow]
  by_cases e : j = i
  · subst e; simp
  · rw [if_neg e]; simp [Ne.symm e]
theorem wY_up {y : Nat → Int32} {s r i : Nat} (hi : i < 10) (r' : Nat) : wY (upd y (40 * s + 10 * r + i) 1) s r' = if r' = r then wit (wY y s r) i true else wY y s r' := by
  apply bits_eq (k := 10) (wY_lt _ _ _)
  · by_cases e : r' = r
    · rw [if_pos e]; exact wit_lt (wY_lt _ _ _) hi
    · rw [if_neg e]; exact wY_lt _ _ _
  · intro j hj
    rw [wY_bit _ _ _ hj]
    by_cases e : r' = r
    · subst e
      rw [if_pos rfl, wit_bit]
      by_cases e2 : j = i
      · subst e2; rw [if_pos rfl, pk_us]; rfl
      · rw [if_neg e2, pk_un (by omega), wY_bit _ _ _ hj]
    · rw [if_neg e, pk_un (by omega), wY_bit _ _ _ hj]
section SF
variable {S : Nat → Nat → Bool} {tm : Nat → Bool} {q : Nat → Nat → Nat} {s : Nat} {y : Nat → Int32} {B : Mem}
/-- what holds when k places are given -/
def stK (S : Nat → Nat → Bool) (tm : Nat → Bool) (q : Nat → Nat → Nat) (s : Nat) (y : Nat → Int32) (B : Mem) (k : Nat) (M : Mem) : Prop := (∀ r, r < 4 → M 54 r = nI (rest q s k r)) ∧ (∀ r, r < 4 → M 55 r = nI (sO (S r) 10)) ∧ (∀ r, r < 4 → M (48 + s) r = nI (wY (yK S tm q s y k) s r)) ∧ (∀ j, j ≠ 54 → j ≠ 48 + s → M j = B j)
theorem gd_next (h0 : cb S tm q s 0 0 = true) {k r i j : Nat} (hr : r < 4) (hk1 : cum q s r ≤ k) (hk2 : k + 1 < cum q s (r + 1)) (hi : i < 10) (hj : j < 10) (hgi : gdP S tm q s k (tK S tm q s k) i = true) (hgj : gdP S tm q s k (tK S tm q s k) j = false) : gdP S tm q s (k + 1) (tK S tm q s k ||| 2 ^ i) j = false := by
  have p0 : plc q s k = r := plc_is hr hk1 (by omega)
  have p1 : plc q s (k + 1) = r := plc_is hr (by omega) hk2
  have hk4 : k + 1 < cum q s 4 := Nat.lt_of_lt_of_le hk2 (cum_mono q s (by omega))
  generalize tK S tm q s k = T at *
  rw [Bool.eq_false_iff]
  intro e
  unfold gdP at e hgi hgj
  rw [p1, Bool.and_eq_true, Bool.and_eq_true, Bool.and_eq_true] at e
  rw [p0, Bool.and_eq_true, Bool.and_eq_true, Bool.and_eq_true] at hgi
  rw [p0] at hgj
  obtain ⟨⟨e1, e2⟩, e3, e4⟩ := e
  obtain ⟨⟨g1, g2⟩, g3, g4⟩ := hgi
  rw [Nat.testBit_or, Nat.testBit_two_pow, Bool.not_or, Bool.and_eq_true] at e3
  have hne : ¬ i = j := fun h => by subst h; simp at e3
  have : cb S tm q s (k + 1) (T ||| 2 ^ j) = true := by
    rw [cb_t]
    refine H_back (r := r) (x := i) hr (by have := rest_pos hk4; rw [p1] at this; exact this) hi ?_ g2 (Hall_ext (fun _ _ _ _ => rfl) (fun n _ => ?_) (fun r' hr' => ?_) (cb_t.mp e4))
    · rw [g1, Nat.testBit_or, Nat.testBit_two_pow]
      rw [Bool.not_eq_true'] at g3
      rw [g3]; simp [Ne.symm hne]
    · rw [rem_or]
      congr 2
      rw [Nat.testBit_or, Nat.testBit_or, Nat.testBit_or, Nat.testBit_or]
      cases T.testBit n <;> cases (2 ^ i).testBit n <;> cases (2 ^ j).testBit n <;> rfl
    · rw [rest_dem hk4 hr', p1]
  rw [e1, e2, e3.1, this] at hgj
  cases hgj
theorem xO_staffRoom (h0 : cb S tm q s 0 0 = true) (hs : s < 6) {r : Nat} (hr : r < 4) {M : Mem} (hM : stK S tm q s y B (cum q s r) M) : ∃ M', fO_staffRoom (nI s) (nI r) (nI (nd (sO tm 10) (tK S tm q s (cum q s r)))) M = some (nI (nd (sO tm 10) (tK S tm q s (cum q s (r + 1)))), M') ∧ stK S tm q s y B (cum q s (r + 1)) M' := by
  have hF0 : sO tm 10 < 2 ^ 10 := sO_lt _ 10
  have hc4 : cum q s (r + 1) ≤ cum q s 4 := cum_mono q s (by omega)
  have hcm : cum q s r ≤ cum q s (r + 1) := cum_mono q s (by omega)
  have step : ∀ k i N, cum q s r ≤ k → k < cum q s (r + 1) → i < 10 → stK S tm q s y B k N → (∀ j, j < i → gdP S tm q s k (tK S tm q s k) j = false) →
      (gdP S tm q s k (tK S tm q s k) i = false → ∃ N', bO_staffRoom_6 (nI s) (nI r) (nI (nd (sO tm 10) (tK S tm q s k)), nI i, N) = some (.inr (nI (nd (sO tm 10) (tK S tm q s k)), nI (i + 1), N')) ∧ stK S tm q s y B k N') ∧
      (gdP S tm q s k (tK S tm q s k) i = true → ∃ N', bO_staffRoom_6 (nI s) (nI r) (nI (nd (sO tm 10) (tK S tm q s k)), nI i, N) = some (.inr (nI (nd (sO tm 10) (tK S tm q s (k + 1))), nI (i + 1), N')) ∧ stK S tm q s y B (k + 1) N') := by
    intro k i N hk1 hk2 hi hN hprev
    have hk4 : k < cum q s 4 := by omega
    have p0 : plc q s k = r := plc_is hr hk1 hk2
    obtain ⟨n1, n2, n3, n4⟩ := hN
    obtain ⟨i1, i2⟩ := tK_inv h0 k (by omega)
    have hpos := rest_pos hk4
    rw [p0] at hpos
    have hle : rest q s k r ≤ 5 := rest_le
    have hlt : nd (sO tm 10) (tK S tm q s k) < 2 ^ 31 := Nat.lt_trans (nd_lt hF0) (by decide)
    have hbit : (nd (sO tm 10) (tK S tm q s k) &&& sO (S r) 10).testBit i = ((tm i && S r i) && !(tK S tm q s k).testBit i) := by
      rw [Nat.testBit_and, nd_bit, sO_bit, sO_bit, decide_eq_true hi, Bool.true_and, Bool.true_and]
      cases tm i <;> cases S r i <;> cases (tK S tm q s k).testBit i <;> rfl
    have body : bO_staffRoom_6 (nI s) (nI r) (nI (nd (sO tm 10) (tK S tm q s k)), nI i, N) = if ((tm i && S r i) && !(tK S tm q s k).testBit i) = false then some (.inr (nI (nd (sO tm 10) (tK S tm q s k)), nI (i + 1), N)) else
        (xbd (fO_areEnough (nI (nd (sO tm 10) (tK S tm q s k ||| 2 ^ i))) (up2 N 54 r (nI (rest q s k r) - 1))) (fun r9 => if r9 = 0 then some (.inr (nI (nd (sO tm 10) (tK S tm q s k)), nI (i + 1), up2 (up2 N 54 r (nI (rest q s k r) - 1)) 54 r (nI (rest q s k r) - 1 + 1))) else some (.inr (nI (nd (sO tm 10) (tK S tm q s k ||| 2 ^ i)), nI (i + 1), up2 (up2 N 54 r (nI (rest q s k r) - 1)) (48 + s) r (nI (wit (wY (yK S tm q s y k) s r) i true)))))) := by
      dsimp only [bO_staffRoom_6, gO_staffRoom_6]
      have vr : vp_in (nI r) 4 := vi_ hr (by decide)
      have vs : vp_in (nI s) 6 := vi_ hs (by decide)
      have cr : (nI r).toNatClampNeg = r := cl_ (by omega)
      have e48 : (47 : Nat) + 1 + (nI s).toNatClampNeg = 48 + s := by rw [cl_ (by omega)]
      have w0 : fE_with (nI (nd (sO tm 10) (tK S tm q s k))) (nI i) 0 = some (nI (nd (sO tm 10) (tK S tm q s k ||| 2 ^ i))) := by
        rw [← nd_wit]; exact xE_with (z := false) hlt (by omega)
      have w1 : fE_with (nI (wY (yK S tm q s y k) s r)) (nI i) 1 = some (nI (wit (wY (yK S tm q s y k) s r) i true)) := xE_with (z := true) (Nat.lt_trans (wY_lt _ _ _) (by decide)) (by omega)
      rw [if_neg (show ¬ (10 : Int32) ≤ nI i from nI_ltc hi (by decide)), xgd_pos vr, cr, if_neg (show ¬ N 54 r ≤ 0 by rw [n1 r hr]; exact nI_nle hpos (by omega)), xgd_pos vr, n2 r hr, nI_and, xE_has (Nat.lt_of_le_of_lt Nat.and_le_left hlt) (by omega), xbd_eq, hbit]
      unfold fO_staffRoom_109
      simp only [xgd_pos vr, xgd_pos vs, xlt_eq, nI_1, bz_0, w0, xbd_eq, e48]
      have e54 : N 54 r = nI (rest q s k r) := n1 r hr
      rw [e54, up2_at, up2_ne (show 48 + s ≠ 54 by omega), n3 r hr, w1, xbd_eq]
    have hm1 : ∀ r', r' < 4 → up2 N 54 r (nI (rest q s k r) - 1) 54 r' = nI (rest q s (k + 1) r') := by
      intro r' hr'
      rw [rest_dem hk4 hr', p0]
      unfold dem
      rw [up2_same]
      by_cases e : r' = r
      · subst e; rw [pk_us, un_s]
        obtain ⟨w, hw⟩ : ∃ w, rest q s k r' = w + 1 := ⟨rest q s k r' - 1, by omega⟩
        rw [hw, sit1]; rfl
      · rw [pk_un e, un_n e]; exact n1 r' hr'
    obtain ⟨z, z1, z2⟩ := xO_enough (X := up2 N 54 r (nI (rest q s k r) - 1)) (S := S) (F := nd (sO tm 10) (tK S tm q s k ||| 2 ^ i)) (m := rest q s (k + 1)) (nd_lt hF0) (fun r' _ => rest_le) hm1 (fun r' hr' => by rw [up2_ne (by decide)]; exact n2 r' hr')
    have z3 : z = cb S tm q s (k + 1) (tK S tm q s k ||| 2 ^ i) := by
      have hF : ∀ n, n < 10 → (nd (sO tm 10) (tK S tm q s k ||| 2 ^ i)).testBit n = (tm n && !(tK S tm q s k ||| 2 ^ i).testBit n) := fun n hn => by
        rw [nd_bit, sO_bit, decide_eq_true hn, Bool.true_and]
      cases hz : z with
      | true => exact (cb_t.mpr (Hall_ext (fun _ _ _ _ => rfl) hF (fun _ _ => rfl) (z2.mp hz))).symm
      | false =>
        symm
        rw [Bool.eq_false_iff]
        intro e
        have := z2.mpr (Hall_ext (fun _ _ _ _ => rfl) (fun n hn => (hF n hn).symm) (fun _ _ => rfl) (cb_t.mp e))
        rw [hz] at this; cases this
    rw [body, z1, xbd_eq]
    have back : stK S tm q s y B k (up2 (up2 N 54 r (nI (rest q s k r) - 1)) 54 r (nI (rest q s k r) - 1 + 1)) := by
      refine ⟨fun r' hr' => ?_, fun r' hr' => by rw [up2_ne (by decide), up2_ne (by decide)]; exact n2 r' hr', fun r' hr' => by rw [up2_ne (by omega), up2_ne (by omega)]; exact n3 r' hr', fun j h1 h2 => by rw [up2_ne h1, up2_ne h1]; exact n4 j h1 h2⟩
      rw [up2_same]
      by_cases e : r' = r
      · subst e; rw [pk_us]
        obtain ⟨w, hw⟩ : ∃ w, rest q s k r' = w + 1 := ⟨rest q s k r' - 1, by omega⟩
        rw [hw, sit1, nI_1]
      · rw [pk_un e, up2_same, pk_un e]; exact n1 r' hr'
    constructor
    · intro hg
      by_cases c1 : ((tm i && S r i) && !(tK S tm q s k).testBit i) = false
      · rw [if_pos c1]; exact ⟨N, rfl, n1, n2, n3, n4⟩
      · rw [if_neg c1]
        have hz : z = false := by
          rw [z3]
          unfold gdP at hg
          rw [p0] at hg
          have c2 := eq_true_of_ne_false c1
          rw [Bool.and_eq_true] at c2
          rw [c2.1, c2.2] at hg
          exact hg
        rw [hz, if_pos (by decide)]
        exact ⟨_, rfl, back⟩
    · intro hg
      have hg' := hg
      unfold gdP at hg
      rw [p0, Bool.and_eq_true] at hg
      obtain ⟨g1, g23⟩ := hg
      rw [Bool.and_eq_true] at g23
      obtain ⟨g2, g3⟩ := g23
      rw [if_neg (by rw [g1, g2]; decide)]
      rw [g3] at z3
      rw [z3, if_neg (by decide)]
      have hck : cK S tm q s k (tK S tm q s k) = i := by
        have := cK_some h0 hk4
        rw [fN_is hi hg' hprev] at this
        exact (Option.some.inj this).symm
      refine ⟨_, by rw [show tK S tm q s (k + 1) = tK S tm q s k ||| 2 ^ i by show tK S tm q s k ||| 2 ^ cK S tm q s k (tK S tm q s k) = _; rw [hck]], fun r' hr' => by rw [up2_ne (by omega)]; exact hm1 r' hr', fun r' hr' => by rw [up2_ne (by omega), up2_ne (by decide)]; exact n2 r' hr', fun r' hr' => ?_, fun j h1 h2 => by rw [up2_ne h2, up2_ne h1]; exact n4 j h1 h2⟩
      show _ = nI (wY (upd (yK S tm q s y k) (40 * s + 10 * plc q s k + cK S tm q s k (tK S tm q s k)) 1) s r')
      rw [hck, p0, wY_up hi, up2_same]
      by_cases e : r' = r
      · subst e; rw [pk_us, if_pos rfl]
      · rw [pk_un e, if_neg e, up2_ne (by omega)]; exact n3 r' hr'
  have h := xlp_inv (b := bO_staffRoom_6 (nI s) (nI r)) (fun i (st : Int32 × Int32 × Mem) => ∃ k N, cum q s r ≤ k ∧ k ≤ cum q s (r + 1) ∧ st = (nI (nd (sO tm 10) (tK S tm q s k)), nI i, N) ∧ stK S tm q s y B k N ∧ (k < cum q s (r + 1) → ∀ j, j < i → gdP S tm q s k (tK S tm q s k) j = false)) (fun t => ∃ v N, t = (nI (nd (sO tm 10) (tK S tm q s (cum q s (r + 1)))), v, N) ∧ stK S tm q s y B (cum q s (r + 1)) N) 10 ?_ (nI (nd (sO tm 10) (tK S tm q s (cum q s r))), 0, M) ⟨cum q s r, M, Nat.le_refl _, hcm, rfl, hM, fun _ j hj => absurd hj (Nat.not_lt_zero j)⟩
  · obtain ⟨t, t1, v, N, rfl, t2⟩ := h
    refine ⟨N, ?_, t2⟩
    unfold fO_staffRoom
    rw [t1, xbd_eq]; rfl
  · rintro i st hi ⟨k, N, k1, k2, rfl, hN, hprev⟩
    by_cases hkk : k < cum q s (r + 1)
    · by_cases e : i = 10
      · exfalso
        subst e
        have h1 := cK_some h0 (show k < cum q s 4 by omega)
        rw [fN_no (hprev hkk)] at h1
        cases h1
      · have hi' : i < 10 := by omega
        refine Or.inr ⟨hi', ?_⟩
        obtain ⟨s1, s2⟩ := step k i N k1 hkk hi' hN (hprev hkk)
        cases hg : gdP S tm q s k (tK S tm q s k) i with
        | false =>
          obtain ⟨N', a1, a2⟩ := s1 hg
          refine ⟨_, a1, k, N', k1, k2, rfl, a2, fun _ j hj => ?_⟩
          by_cases e2 : j = i
          · subst e2; exact hg
          · exact hprev hkk j (by omega)
        | true =>
          obtain ⟨N', a1, a2⟩ := s2 hg
          refine ⟨_, a1, k + 1, N', by omega, by omega, rfl, a2, fun hlt j hj => ?_⟩
          have hck : cK S tm q s k (tK S tm q s k) = i := by
            have := cK_some h0 (show k < cum q s 4 by omega)
            rw [fN_is hi' hg (hprev hkk)] at this
            exact (Option.some.inj this).symm
          show gdP S tm q s (k + 1) (tK S tm q s k ||| 2 ^ cK S tm q s k (tK S tm q s k)) j = false
          rw [hck]
          by_cases e2 : j = i
          · subst e2
            unfold gdP
            rw [Nat.testBit_or, Nat.testBit_two_pow]
            simp
          · exact gd_next h0 hr k1 hlt hi' (by omega) hg (hprev hkk j (by omega))
    · have e : k = cum q s (r + 1) := by omega
      subst e
      have h54 : N 54 r = 0 := by
        rw [hN.1 r hr]
        unfold rest
        rw [show cum q s (r + 1) - cum q s (r + 1) - (cum q s r - cum q s (r + 1)) = 0 by omega]; rfl
      refine Or.inl ⟨_, ?_, nI i, N, rfl, hN⟩
      dsimp only [bO_staffRoom_6, gO_staffRoom_6]
      by_cases c : (10 : Int32) ≤ nI i
      · rw [if_pos c]
      · rw [if_neg c, xgd_pos (vi_ hr (by decide)), cl_ (show r < 100000 by omega), if_pos (show N 54 r ≤ 0 by rw [h54]; decide)]
end SF
