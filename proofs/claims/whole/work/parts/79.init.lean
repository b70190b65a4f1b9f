/-! ===== a new desk and a new reference ===== -/
abbrev m0 : Mem := fun _ _ => 0
theorem dig_pow : ∀ p, p < 9 → dig (2 ^ p) = 6 ^ (8 - p) := by decide
theorem iP : ∃ mP, fP_init m0 = some mP ∧ (∀ x, x < 512 → mP 1 x = nI (dig x)) ∧ (∀ j, j ≠ 1 → mP j = m0 j) := by
  have inner : ∀ (p : Nat) (N : Mem), p < 9 → (∀ x, x < 2 ^ p → N 1 x = nI (dig x)) → ∃ (v : Int32) (N' : Mem), xlp (bP_init_71 (nI (6 ^ (8 - p))) (nI p)) (0, N) = some (v, N') ∧ (∀ x, x < 2 ^ (p + 1) → N' 1 x = nI (dig x)) ∧ (∀ j, j ≠ 1 → N' j = N j) := by
    intro p N hp hN
    have hpw : 2 ^ p ≤ 256 := Nat.pow_le_pow_right (n := 2) (by decide) (show p ≤ 8 by omega)
    have h := xlp_inv (b := bP_init_71 (nI (6 ^ (8 - p))) (nI p)) (fun t (st : Int32 × Mem) => ∃ L : Mem, st = (nI t, L) ∧ (∀ x, x < 2 ^ p + t → L 1 x = nI (dig x)) ∧ (∀ j, j ≠ 1 → L j = N j)) (fun t => ∃ (v : Int32) (L : Mem), t = (v, L) ∧ (∀ x, x < 2 ^ (p + 1) → L 1 x = nI (dig x)) ∧ (∀ j, j ≠ 1 → L j = N j)) (2 ^ p) ?_ (0, N) ⟨N, rfl, hN, fun _ _ => rfl⟩
    · obtain ⟨t, t1, v, L, rfl, t2⟩ := h
      exact ⟨v, L, t1, t2⟩
    · rintro t st ht ⟨L, rfl, hL, hf⟩
      dsimp only [bP_init_71, gP_init_71]
      rw [sh_1 p (by omega)]
      by_cases e : t = 2 ^ p
      · subst e
        refine Or.inl ⟨_, if_pos (Int32.le_refl _), _, L, rfl, fun x hx => hL x ?_, hf⟩
        rw [Nat.pow_succ, Nat.mul_two] at hx; exact hx
      · have ht' : t < 2 ^ p := by omega
        refine Or.inr ⟨ht', ?_⟩
        have hor : t ||| 2 ^ p = 2 ^ p + t := or_pow ht'
        have hz : t &&& 2 ^ p = 0 := (and_pow t p).mpr (bit_hi ht' (Nat.le_refl _))
        have hd : dig (t ||| 2 ^ p) = dig t + 6 ^ (8 - p) := by
          rw [← dig_pow p hp]; exact dig9_or hz 9
        rw [if_neg (nI_ltc ht' (by omega)), nI_or]
        have v1 : vp_in (nI t) 512 := vi_ (show t < 512 by omega) (by decide)
        have v2 : vp_in (nI (t ||| 2 ^ p)) 512 := vi_ (show t ||| 2 ^ p < 512 by omega) (by decide)
        simp only [xgd_pos v1, xgd_pos v2, xlt_eq, cl_ (show t < 100000 by omega), cl_ (show t ||| 2 ^ p < 100000 by omega), nI_1]
        rw [hL t (by omega), nI_add, ← hd]
        refine ⟨_, rfl, _, rfl, fun x hx => ?_, fun j hj => by rw [up2_ne hj]; exact hf j hj⟩
        rw [up2_same]
        by_cases e2 : x = t ||| 2 ^ p
        · subst e2; exact pk_us
        · rw [pk_un e2]; exact hL x (by omega)
  have h := xlp_inv (b := bP_init_58) (fun p (st : Int32 × Int32 × Mem) => ∃ L : Mem, st = (nI (6 ^ (9 - p)), nI p, L) ∧ (∀ x, x < 2 ^ p → L 1 x = nI (dig x)) ∧ (∀ j, j ≠ 1 → L j = m0 j)) (fun t => ∃ (v w : Int32) (L : Mem), t = (v, w, L) ∧ (∀ x, x < 512 → L 1 x = nI (dig x)) ∧ (∀ j, j ≠ 1 → L j = m0 j)) 9 ?_ (10077696, 0, m0) ⟨m0, rfl, fun x hx => by rw [show x = 0 by simpa using hx]; rfl, fun _ _ => rfl⟩
  · obtain ⟨t, t1, v, w, L, rfl, t2⟩ := h
    refine ⟨L, ?_, t2⟩
    unfold fP_init
    rw [t1, xbd_eq]; rfl
  · rintro p st hp ⟨L, rfl, hL, hf⟩
    dsimp only [bP_init_58, gP_init_58]
    by_cases e : p = 9
    · subst e
      exact Or.inl ⟨_, if_pos (Int32.le_refl (nI 9)), _, _, L, rfl, hL, hf⟩
    · have hp' : p < 9 := by omega
      refine Or.inr ⟨hp', ?_⟩
      have e6 : nI (6 ^ (9 - p)) / 6 = nI (6 ^ (8 - p)) := by
        have hlt : 6 ^ (9 - p) ≤ 6 ^ 9 := Nat.pow_le_pow_right (by decide) (by omega)
        have p69 : (6 : Nat) ^ 9 = 10077696 := by decide
        have h1 : nI (6 ^ (9 - p)) / nI 6 = nI (6 ^ (9 - p) / 6) := pk_div (by omega) (by decide) (by decide)
        rw [show 6 ^ (9 - p) / 6 = 6 ^ (8 - p) by rw [show 9 - p = (8 - p) + 1 by omega, Nat.pow_succ]; omega] at h1
        exact h1
      obtain ⟨v, N', n1', n2, n3⟩ := inner p L hp' hL
      rw [if_neg (show ¬ (9 : Int32) ≤ nI p from nI_ltc hp' (by decide)), xlt_eq, e6, n1', xbd_eq]
      unfold fP_init_102
      rw [xlt_eq, nI_1]
      exact ⟨_, rfl, N', by rw [show 9 - (p + 1) = 8 - p by omega], n2, fun j hj => (n3 j hj).trans (hf j hj)⟩
theorem iR : ∃ mR, fR_init m0 = some mR ∧ (∀ s k, s < 6 → k < 144 → mR (6 + s) k = -1) ∧ (∀ s k, s < 6 → k < 144 → mR (13 + s) k = -1) ∧ (∀ s c, s < 6 → c < 40 → mR (20 + s) c = -1) ∧ (∀ j, j < 6 → mR j = m0 j) := by
  have h := xlp_inv (b := bR_init_74) (fun n (st : Int32 × Mem) => ∃ L : Mem, st = (nI n, L) ∧ (∀ s k, s < n → k < 144 → L (6 + s) k = -1) ∧ (∀ s k, s < n → k < 144 → L (13 + s) k = -1) ∧ (∀ s c, s < n → c < 40 → L (20 + s) c = -1) ∧ (∀ j, j < 6 → L j = m0 j)) (fun t => ∃ (v : Int32) (L : Mem), t = (v, L) ∧ (∀ s k, s < 6 → k < 144 → L (6 + s) k = -1) ∧ (∀ s k, s < 6 → k < 144 → L (13 + s) k = -1) ∧ (∀ s c, s < 6 → c < 40 → L (20 + s) c = -1) ∧ (∀ j, j < 6 → L j = m0 j)) 6 ?_ (0, m0) ⟨m0, rfl, fun s k h => absurd h (Nat.not_lt_zero s), fun s k h => absurd h (Nat.not_lt_zero s), fun s k h => absurd h (Nat.not_lt_zero s), fun _ _ => rfl⟩
  · obtain ⟨t, t1, v, L, rfl, t2⟩ := h
    refine ⟨L, ?_, t2⟩
    unfold fR_init
    rw [t1, xbd_eq]; rfl
  · rintro n st hn ⟨L, rfl, f1, f2, f3, f4⟩
    dsimp only [bR_init_74, gR_init_74]
    by_cases e : n = 6
    · subst e
      exact Or.inl ⟨_, if_pos (Int32.le_refl (nI 6)), _, L, rfl, f1, f2, f3, f4⟩
    · have hn' : n < 6 := by omega
      refine Or.inr ⟨hn', ?_⟩
      rw [if_neg (show ¬ (6 : Int32) ≤ nI n from nI_ltc hn' (by decide))]
      simp only [xgd_pos (vi_ hn' (show 6 < 100000 by decide)), xlt_eq, cl_ (show n < 100000 by omega), nI_1]
      refine ⟨_, rfl, _, rfl, fun s k hs hk => ?_, fun s k hs hk => ?_, fun s c hs hc => ?_, fun j hj => by rw [upA_ne (by omega), upA_ne (by omega), upA_ne (by omega)]; exact f4 j hj⟩
      · rw [upA_ne (by omega), upA_ne (by omega)]
        by_cases e2 : s = n
        · subst e2; rw [show 5 + 1 + s = 6 + s by omega]; exact upA_in hk
        · rw [upA_ne (by omega)]; exact f1 s k (by omega) hk
      · rw [upA_ne (by omega)]
        by_cases e2 : s = n
        · subst e2; rw [show 12 + 1 + s = 13 + s by omega]; exact upA_in hk
        · rw [upA_ne (by omega), upA_ne (by omega)]; exact f2 s k (by omega) hk
      · by_cases e2 : s = n
        · subst e2; rw [show 19 + 1 + s = 20 + s by omega]; exact upA_in hc
        · rw [upA_ne (by omega), upA_ne (by omega), upA_ne (by omega)]; exact f3 s c (by omega) hc
theorem iM : fM_init m0 = some (upA m0 3 9 (-1)) := by
  unfold fM_init
  rw [fill_run (k := 3) (n := 9) (v := -1) (by decide) (fun i M' hi => ?_) (fun M' => ?_), xbd_eq]
  · rfl
  · dsimp only [bM_init_196, gM_init_196]
    rw [if_neg (show ¬ (9 : Int32) ≤ nI i from nI_ltc hi (by decide)), xgd_pos (vi_n hi (by decide))]
    simp only [xlt_eq, nI_1]
  · dsimp only [bM_init_196, gM_init_196]; exact if_pos (Int32.le_refl (nI 9))
theorem all_start : ∃ mP mT mR mO mY : Mem, fP_init m0 = some mP ∧ fT_init ((fun k => if k < 11 then (fun _ => 0) else mP (k - 11)) : Mem) = some mT ∧ fR_init m0 = some mR ∧ fO_init m0 = some mO ∧ fM_init m0 = some mY ∧ Rel ((fun k => if k < 1 then (fun _ => 0) else if k < 18 then mT (k - 1) else if k < 44 then mR (k - 18) else mO (k - 44)) : Mem) mY := by
  obtain ⟨mP, p1, p2, p3⟩ := iP
  obtain ⟨mR, r1', r2', r3', r4', r5'⟩ := iR
  refine ⟨mP, _, mR, m0, _, p1, rfl, r1', rfl, iM, z2, z2, ⟨?_, ?_, ?_, ?_, ?_, ?_⟩, ⟨?_, ?_⟩, ⟨?_, ?_⟩, ⟨?_, ?_⟩, ⟨?_, ?_⟩, ?_, ?_⟩
  · intro p hp; exact ⟨rfl, 0, by decide, rfl⟩
  · intro p hp; exact ⟨rfl, 0, by decide, rfl⟩
  · refine ⟨fun c hc => ?_, fun k _ => Or.inl rfl⟩
    show (0 : Int32) = nI (eY (fun _ => 0) c)
    unfold eY
    rw [sO_z (fun i _ => bq_0)]; rfl
  · intro c hc; exact ⟨rfl, Or.inl rfl⟩
  · have hz : ∀ k b, nI (rY (fun _ => 0) k b) = 0 := fun k b => by unfold rY; rw [sO_z (fun i _ => bq_0)]; rfl
    exact ⟨fun b _ => (hz 0 b).symm, fun b _ => (hz 1 b).symm, fun b _ => (hz 2 b).symm, fun k _ => Or.inl rfl, fun _ _ _ _ _ _ => rfl, fun _ _ _ _ => rfl⟩
  · intro p hp
    have e1 : (upA m0 3 9 (-1) : Mem) 3 p = -1 := upA_in hp
    refine ⟨?_, Or.inl e1⟩
    rw [e1]
    show upA (upA (fun k => if k < 11 then (fun _ => 0) else mP (k - 11)) 9 9 (-1)) 10 9 (-1) 9 p = -1
    rw [upA_ne (by decide)]; exact upA_in hp
  · refine ⟨Or.inl rfl, rfl, ?_, fun p hp => ?_, fun h => absurd rfl h⟩
    · show (0 : Int32) = nI (usd 0 _)
      rw [usd0]; rfl
    · rw [if_pos (show (upA m0 3 9 (-1) : Mem) 0 7 = 0 from rfl)]
      show upA (upA (fun k => if k < 11 then (fun _ => 0) else mP (k - 11)) 9 9 (-1)) 10 9 (-1) 10 p = -1
      exact upA_in hp
  · refine ⟨fun x hx => ?_, ?_, ?_⟩
    · show mP 1 x = _
      exact p2 x hx
    · show mP 3 0 = 0
      rw [p3 3 (by decide)]
    · show mP 4 0 = 0
      rw [p3 4 (by decide)]
  · intro r hr
    refine ⟨?_, ?_, ?_, ⟨0, by decide, rfl⟩, ⟨0, by decide, rfl⟩, Or.inl rfl⟩
    · show mR 1 r = 0; rw [r5' 1 (by decide)]
    · show mR 2 r = 0; rw [r5' 2 (by decide)]
    · show mR 3 r = 0; rw [r5' 3 (by decide)]
  · intro k hk
    refine ⟨?_, Or.inl rfl⟩
    show mR 4 k = 0; rw [r5' 4 (by decide)]
  · intro s hs
    have hX : ∀ j, 18 ≤ j → j < 44 → ((fun k => if k < 1 then (fun _ => 0) else if k < 18 then (upA (upA (fun k => if k < 11 then (fun _ => 0) else mP (k - 11)) 9 9 (-1)) 10 9 (-1)) (k - 1) else if k < 44 then mR (k - 18) else m0 (k - 44)) : Mem) j = mR (j - 18) := fun j h1 h2 => by
      dsimp only
      rw [if_neg (by omega), if_neg (by omega), if_pos h2]
    refine ⟨fun k hk => ⟨Nat.zero_le _, ?_, fun h => absurd rfl h, fun _ => ?_⟩, fun k k' _ _ h => absurd rfl h, fun c hc => Or.inr ⟨fun k _ h => absurd h (Nat.succ_ne_zero c).symm, ?_⟩⟩
    · rw [seg_at _ hs]
      refine (congrFun (hX (24 + s) (by omega) (by omega)) k).trans ?_
      rw [show 24 + s - 18 = 6 + s by omega, r2' s k hs hk]; rfl
    · rw [seg_at _ hs]
      refine (congrFun (hX (31 + s) (by omega) (by omega)) k).trans ?_
      rw [show 31 + s - 18 = 13 + s by omega, r3' s k hs hk]
    · rw [seg_at _ hs]
      refine (congrFun (hX (38 + s) (by omega) (by omega)) c).trans ?_
      rw [show 38 + s - 18 = 20 + s by omega, r4' s c hs hc]
  · intro s k hs hk; exact ⟨rfl, fun h => absurd rfl h⟩
  · intro i hi; exact ⟨rfl, 0, by decide, rfl⟩
  · refine ⟨fun i hi => ?_, fun k _ => Or.inl rfl⟩
    show (0 : Int32) = nI (oY (fun _ => 0) i)
    unfold oY
    rw [sO_z (fun i _ => bq_0)]; rfl
  · refine r15_z (fun s r hs hr => ?_) (fun k _ => rfl)
    rw [if_neg (by omega), if_neg (by omega), if_neg (by omega)]
  · intro _; exact ⟨fun _ _ _ _ => rfl, fun _ _ => rfl⟩
theorem all_sims : Sims Rel := ⟨sim_0, sim_1, sim_2, sim_3, sim_4, sim_5, sim_6, sim_7, sim_8, sim_9, sim_10, sim_11, sim_12, sim_13, sim_14, sim_15, sim_16, sim_17, sim_18, sim_19, sim_20⟩
