/-! ===== the reference's table: can the rest of the places be filled ===== -/
theorem xlp_to {σ ρ : Type} {b : σ → Option (ρ ⊕ σ)} (I : Nat → σ) : ∀ (K : Nat), (∀ i, i < K → b (I i) = some (.inr (I (i + 1)))) → xlp b (I 0) = xlp b (I K)
  | 0, _ => rfl
  | K + 1, h => by rw [xlp_to I K (fun i hi => h i (Nat.lt_succ_of_lt hi))]; exact xlp_go (h K (Nat.lt_succ_self K))
def rest (q : Nat → Nat → Nat) (s k r : Nat) : Nat := (cum q s (r + 1) - k) - (cum q s r - k)
def plc (q : Nat → Nat → Nat) (s k : Nat) : Nat := if k < cum q s 1 then 0 else if k < cum q s 2 then 1 else if k < cum q s 3 then 2 else 3
theorem plc_in {q : Nat → Nat → Nat} {s k : Nat} (h : k < cum q s 4) : plc q s k < 4 ∧ cum q s (plc q s k) ≤ k ∧ k < cum q s (plc q s k + 1) := by
  have h0 : cum q s 0 = 0 := rfl
  unfold plc
  by_cases c1 : k < cum q s 1
  · rw [if_pos c1]; exact ⟨by decide, by omega, c1⟩
  · rw [if_neg c1]
    by_cases c2 : k < cum q s 2
    · rw [if_pos c2]; exact ⟨by decide, by omega, c2⟩
    · rw [if_neg c2]
      by_cases c3 : k < cum q s 3
      · rw [if_pos c3]; exact ⟨by decide, by omega, c3⟩
      · rw [if_neg c3]; exact ⟨by decide, by omega, h⟩
theorem plc_is {q : Nat → Nat → Nat} {s k r : Nat} (hr : r < 4) (h1 : cum q s r ≤ k) (h2 : k < cum q s (r + 1)) : plc q s k = r := by
  obtain ⟨p1, p2, p3⟩ := plc_in (q := q) (s := s) (k := k) (Nat.lt_of_lt_of_le h2 (cum_mono q s (by omega)))
  rcases Nat.lt_trichotomy (plc q s k) r with h | h | h
  · have := cum_mono q s (show plc q s k + 1 ≤ r by omega); omega
  · exact h
  · have := cum_mono q s (show r + 1 ≤ plc q s k by omega); omega
theorem rest_pos {q : Nat → Nat → Nat} {s k : Nat} (h : k < cum q s 4) : 0 < rest q s k (plc q s k) := by
  obtain ⟨p1, p2, p3⟩ := plc_in h
  unfold rest; omega
theorem rest_dem {q : Nat → Nat → Nat} {s k : Nat} (h : k < cum q s 4) {r : Nat} (hr : r < 4) : rest q s (k + 1) r = dem (rest q s k) (plc q s k) r := by
  obtain ⟨p1, p2, p3⟩ := plc_in h
  unfold dem
  by_cases e : r = plc q s k
  · subst e; rw [un_s]; unfold rest; omega
  · rw [un_n e]; unfold rest
    rcases Nat.lt_or_gt_of_ne e with h1 | h1
    · have := cum_mono q s (show r + 1 ≤ plc q s k by omega)
      have := cum_mono q s (show r ≤ r + 1 by omega)
      omega
    · have := cum_mono q s (show plc q s k + 1 ≤ r by omega)
      have := cum_mono q s (show r ≤ r + 1 by omega)
      omega
theorem rest_end {q : Nat → Nat → Nat} {s r : Nat} (hr : r < 4) : rest q s (cum q s 4) r = 0 := by
  have := cum_mono q s (show r + 1 ≤ 4 by omega)
  unfold rest; omega
theorem rest_0 {q : Nat → Nat → Nat} {s r : Nat} : rest q s 0 r = ndR q s r := by
  unfold rest; rw [cum_s]; omega
theorem rest_le {q : Nat → Nat → Nat} {s k r : Nat} : rest q s k r ≤ 5 := by
  have := ndR_le q s r
  have := cum_s q s r
  unfold rest; omega
noncomputable def cb (S : Nat → Nat → Bool) (tm : Nat → Bool) (q : Nat → Nat → Nat) (s k set : Nat) : Bool := @decide (Hall S (fun i => tm i && !set.testBit i) (rest q s k)) (Classical.propDecidable _)
theorem cb_t {S : Nat → Nat → Bool} {tm : Nat → Bool} {q : Nat → Nat → Nat} {s k set : Nat} : cb S tm q s k set = true ↔ Hall S (fun i => tm i && !set.testBit i) (rest q s k) := by
  unfold cb; exact @decide_eq_true_iff _ (Classical.propDecidable _)
theorem rem_or {tm : Nat → Bool} {set x i : Nat} : rem (fun i => tm i && !set.testBit i) x i = (tm i && !(set ||| 2 ^ x).testBit i) := by
  unfold rem
  rw [Nat.testBit_or, Nat.testBit_two_pow]
  by_cases e : i = x
  · subst e; simp
  · simp [e, Ne.symm e]
theorem cb_s {S : Nat → Nat → Bool} {tm : Nat → Bool} {q : Nat → Nat → Nat} {s k set : Nat} (h : k < cum q s 4) : cb S tm q s k set = anyB (fun i => (tm i && S (plc q s k) i) && (!set.testBit i && cb S tm q s (k + 1) (set ||| 2 ^ i))) 10 := by
  obtain ⟨p1, -, -⟩ := plc_in h
  have key : cb S tm q s k set = true ↔ anyB (fun i => (tm i && S (plc q s k) i) && (!set.testBit i && cb S tm q s (k + 1) (set ||| 2 ^ i))) 10 = true := by
    rw [cb_t, anyB_t]
    constructor
    · intro hh
      obtain ⟨x, x1, x2, x3, x4⟩ := H_fwd p1 (rest_pos h) hh
      rw [Bool.and_eq_true] at x2
      refine ⟨x, x1, ?_⟩
      rw [x2.1, x3, x2.2]
      rw [show cb S tm q s (k + 1) (set ||| 2 ^ x) = true from cb_t.mpr (Hall_ext (fun _ _ _ _ => rfl) (fun i _ => rem_or) (fun r hr => (rest_dem h hr).symm) x4)]
      rfl
    · rintro ⟨x, x1, x2⟩
      rw [Bool.and_eq_true, Bool.and_eq_true, Bool.and_eq_true] at x2
      obtain ⟨⟨y1, y2⟩, y3, y4⟩ := x2
      exact H_back p1 (rest_pos h) x1 (by rw [y1, y3]; rfl) y2 (Hall_ext (fun _ _ _ _ => rfl) (fun i _ => rem_or.symm) (fun r hr => rest_dem h hr) (cb_t.mp y4))
  cases h1 : cb S tm q s k set with
  | true => rw [key.mp h1]
  | false =>
    cases h2 : anyB (fun i => (tm i && S (plc q s k) i) && (!set.testBit i && cb S tm q s (k + 1) (set ||| 2 ^ i))) 10 with
    | false => rfl
    | true => rw [key.mpr h2] at h1; cases h1
theorem ixK (k t : Nat) : (1024 : Int32) * nI k + nI t = nI (1024 * k + t) := by
  show nI 1024 * nI k + nI t = _
  rw [pk_mul, nI_add]
theorem ixK1 (k t : Nat) : (1024 : Int32) * nI k + 1024 + nI t = nI (1024 * (k + 1) + t) := by
  show nI 1024 * nI k + nI 1024 + nI t = _
  rw [pk_mul, nI_add, nI_add]; congr 1
theorem fill23 {b : Int32 × Mem → Option ((Int32 × Mem) ⊕ (Int32 × Mem))} {k : Nat} {v : Int32} (hb : ∀ i N, i < 1024 → b (nI i, N) = some (.inr (nI (i + 1), up2 N 23 (1024 * k + i) v))) (he : ∀ N, b (nI 1024, N) = some (.inl (nI 1024, N))) (M : Mem) : ∃ M', xlp b (0, M) = some (nI 1024, M') ∧ (∀ j, j ≠ 23 → M' j = M j) ∧ (∀ t, t < 1024 → M' 23 (1024 * k + t) = v) ∧ (∀ n, n < 1024 * k ∨ 1024 * (k + 1) ≤ n → M' 23 n = M 23 n) := by
  have h := xlp_inv (b := b) (fun i (st : Int32 × Mem) => ∃ N, st = (nI i, N) ∧ (∀ j, j ≠ 23 → N j = M j) ∧ (∀ t, t < i → N 23 (1024 * k + t) = v) ∧ (∀ n, n < 1024 * k ∨ 1024 * (k + 1) ≤ n → N 23 n = M 23 n)) (fun t => ∃ N, t = (nI 1024, N) ∧ (∀ j, j ≠ 23 → N j = M j) ∧ (∀ t, t < 1024 → N 23 (1024 * k + t) = v) ∧ (∀ n, n < 1024 * k ∨ 1024 * (k + 1) ≤ n → N 23 n = M 23 n)) 1024 ?_ (0, M) ⟨M, rfl, fun _ _ => rfl, fun t ht => absurd ht (Nat.not_lt_zero t), fun _ _ => rfl⟩
  · obtain ⟨t, t1, N, rfl, t2⟩ := h
    exact ⟨N, t1, t2⟩
  · rintro i st hi ⟨N, rfl, f1, f2, f3⟩
    by_cases e : i = 1024
    · subst e; exact Or.inl ⟨_, he N, N, rfl, f1, f2, f3⟩
    · refine Or.inr ⟨by omega, _, hb i N (by omega), _, rfl, fun j hj => by rw [up2_ne hj]; exact f1 j hj, fun t ht => ?_, fun n hn => ?_⟩
      · rw [up2_same]
        by_cases e2 : t = i
        · subst e2; exact pk_us
        · rw [pk_un (by omega)]; exact f2 t (by omega)
      · rw [up2_same, pk_un (by omega)]; exact f3 n hn
theorem or23 {M : Mem} {s many k i : Nat} (hk : k ≤ 9) (hi : i < 10) {old nxt : Nat → Bool} (ho : ∀ t, t < 1024 → M 23 (1024 * k + t) = bz (old t)) (hn : ∀ t, t < 1024 → M 23 (1024 * (k + 1) + t) = bz (nxt t)) : ∃ v M', xlp (bM_watch_201 (nI s) (nI many) (nI k) (nI i) 1) (0, M) = some (v, M') ∧ (∀ j, j ≠ 23 → M' j = M j) ∧ (∀ t, t < 1024 → M' 23 (1024 * k + t) = bz (old t || (!t.testBit i && nxt (t ||| 2 ^ i)))) ∧ (∀ n, n < 1024 * k ∨ 1024 * (k + 1) ≤ n → M' 23 n = M 23 n) := by
  have h := xlp_inv (b := bM_watch_201 (nI s) (nI many) (nI k) (nI i) 1) (fun n (st : Int32 × Mem) => ∃ N, st = (nI n, N) ∧ (∀ j, j ≠ 23 → N j = M j) ∧ (∀ t, t < 1024 → N 23 (1024 * k + t) = bz (if t < n then (old t || (!t.testBit i && nxt (t ||| 2 ^ i))) else old t)) ∧ (∀ n, n < 1024 * k ∨ 1024 * (k + 1) ≤ n → N 23 n = M 23 n)) (fun t => ∃ N, t = (nI 1024, N) ∧ (∀ j, j ≠ 23 → N j = M j) ∧ (∀ t, t < 1024 → N 23 (1024 * k + t) = bz (old t || (!t.testBit i && nxt (t ||| 2 ^ i)))) ∧ (∀ n, n < 1024 * k ∨ 1024 * (k + 1) ≤ n → N 23 n = M 23 n)) 1024 ?_ (0, M) ⟨M, rfl, fun _ _ => rfl, fun t ht => by rw [if_neg (Nat.not_lt_zero t)]; exact ho t ht, fun _ _ => rfl⟩
  · obtain ⟨t, t1, N, rfl, t2⟩ := h
    exact ⟨_, N, t1, t2⟩
  · rintro n st hn' ⟨N, rfl, f1, f2, f3⟩
    dsimp only [bM_watch_201, gM_watch_201]
    by_cases e : n = 1024
    · subst e
      refine Or.inl ⟨_, if_pos (Int32.le_refl (nI 1024)), N, rfl, f1, fun t ht => by rw [f2 t ht, if_pos ht], f3⟩
    · have hn1 : n < 1024 := by omega
      refine Or.inr ⟨hn1, ?_⟩
      have hor : n ||| 2 ^ i < 2 ^ 10 := Nat.or_lt_two_pow (n := 10) hn1 (Nat.pow_lt_pow_right (by decide) hi)
      have hcur := f2 n hn1
      rw [if_neg (Nat.lt_irrefl n)] at hcur
      have hnx : N 23 (1024 * (k + 1) + (n ||| 2 ^ i)) = bz (nxt (n ||| 2 ^ i)) := by rw [f3 _ (by omega), hn _ hor]
      rw [if_neg (show ¬ (1024 : Int32) ≤ nI n from nI_ltc hn1 (by decide)), if_neg n10]
      unfold fM_watch_277 fM_watch_281 fM_watch_282
      rw [sh_1 i (by omega), nI_or]
      simp only [xlt_eq, ixK, ixK1, nI_1]
      rw [xgd_pos (vi_ (show 1024 * k + n < 41984 by omega) (by decide)), cl_ (show 1024 * k + n < 100000 by omega), hcur, xM_has (by omega) (by omega), xbd_eq, xgd_pos (vi_ (show 1024 * (k + 1) + (n ||| 2 ^ i) < 41984 by omega) (by decide)), cl_ (show 1024 * (k + 1) + (n ||| 2 ^ i) < 100000 by omega), hnx]
      have e0 : vp_nar .boolean 0 = bz false := bz_nar false
      have e1 : vp_nar .boolean 1 = bz true := bz_nar true
      simp only [e0, e1, bz_0]
      have fin : ∀ z : Bool, z = (old n || (!n.testBit i && nxt (n ||| 2 ^ i))) → ∃ s', (xgd (vp_in (nI (1024 * k + n)) 41984) (some (Sum.inr (nI (n + 1), up2 N 23 (1024 * k + n) (bz z)))) : Option ((Int32 × Mem) ⊕ (Int32 × Mem))) = some (.inr s') ∧ ∃ N, s' = (nI (n + 1), N) ∧ (∀ j, j ≠ 23 → N j = M j) ∧ (∀ t, t < 1024 → N 23 (1024 * k + t) = bz (if t < n + 1 then (old t || (!t.testBit i && nxt (t ||| 2 ^ i))) else old t)) ∧ (∀ n, n < 1024 * k ∨ 1024 * (k + 1) ≤ n → N 23 n = M 23 n) := by
        intro z hz
        rw [xgd_pos (vi_ (show 1024 * k + n < 41984 by omega) (by decide))]
        refine ⟨_, rfl, _, rfl, fun j hj => by rw [up2_ne hj]; exact f1 j hj, fun t ht => ?_, fun m hm => by rw [up2_same, pk_un (by omega)]; exact f3 m hm⟩
        rw [up2_same]
        by_cases e2 : t = n
        · subst e2; rw [pk_us, if_pos (by omega), hz]
        · rw [pk_un (by omega), f2 t ht]
          by_cases c : t < n
          · rw [if_pos c, if_pos (by omega)]
          · rw [if_neg c, if_neg (by omega)]
      cases h1 : old n with
      | true => rw [if_neg (by decide)]; exact fin true (by rw [h1]; rfl)
      | false =>
        rw [if_pos rfl]
        cases h2 : n.testBit i with
        | true => rw [if_neg (by decide)]; exact fin false (by rw [h1, h2]; rfl)
        | false =>
          rw [if_pos rfl]
          cases h3 : nxt (n ||| 2 ^ i) with
          | false => rw [if_pos rfl]; exact fin false (by rw [h1, h2, h3]; rfl)
          | true => rw [if_neg (by decide)]; exact fin true (by rw [h1, h2, h3]; rfl)
