/-! ===== the reference's table of fewest sessions ===== -/
def mayB (Y : Mem) (s set Hd : Nat) : Bool := decide (nd set Hd = 0) && fitsB Y s set Hd
def n1 (x : Nat) : Nat := (decide (x ≠ 0)).toNat
/-- one level of the table, over the next -/
def lvl (gd : Nat → Bool) (fo : Nat → Nat → Bool) (Hd : Nat) (nx vk : Nat → Nat) : Prop := ∀ a, a < 512 → vk a ≤ 99 ∧ (a &&& Hd = a → (∀ x, x &&& nd Hd a = x → gd x = true → fo x a = true → vk a ≤ nx (a ||| x) + n1 x) ∧ (vk a < 99 → ∃ x, x &&& nd Hd a = x ∧ gd x = true ∧ fo x a = true ∧ vk a = nx (a ||| x) + n1 x))
theorem ix512 (k a : Nat) : (512 : Int32) * nI k + nI a = nI (512 * k + a) := by
  show nI 512 * nI k + nI a = _
  rw [pk_mul, nI_add]
theorem ix512b (k a : Nat) : (512 : Int32) * nI k + 512 + nI a = nI (512 * (k + 1) + a) := by
  show nI 512 * nI k + nI 512 + nI a = _
  rw [pk_mul, nI_add, nI_add]; congr 1
theorem nd_self {a Hd : Nat} (h : a &&& Hd = a) : nd a Hd = 0 := by
  apply Nat.eq_of_testBit_eq
  intro i
  rw [nd_bit, Nat.zero_testBit]
  cases ha : a.testBit i with
  | false => rfl
  | true => rw [sub_bit h ha]; rfl
theorem nd_self' {a Hd : Nat} (h : nd a Hd = 0) : a &&& Hd = a := sub_of (fun p hp => by
  have : (nd a Hd).testBit p = false := by rw [h]; exact Nat.zero_testBit p
  rw [nd_bit, hp] at this
  simpa using this)
theorem cell_up {L0 : Mem} {k a : Nat} {gd : Nat → Bool} {Y : Mem} {Hd : Nat} (hHd : Hd < 512) (hk : k < 6) (ha : a < 512) (haH : a &&& Hd = a) (m6 : L0 6 = Y 6) {nx : Nat → Nat} (h11 : ∀ x, x < 512 → L0 11 x = bz (gd x)) (hnx : ∀ y, y < 512 → L0 8 (512 * (k + 1) + y) = nI (nx y)) (hnl : ∀ y, y < 512 → nx y ≤ 99) (h99 : L0 8 (512 * k + a) = 99) :
    ∃ (v w : Int32) (L1 : Mem) (u : Nat), xlp (bM_least_141 (nI Hd) (nI k) (nI a) (nI (nd Hd a))) (nI (nd Hd a), 1, L0) = some (v, w, L1) ∧ (∀ j, j ≠ 8 → L1 j = L0 j) ∧ (∀ n, n ≠ 512 * k + a → L1 8 n = L0 8 n) ∧ L1 8 (512 * k + a) = nI u ∧ u ≤ 99 ∧ (∀ x, x &&& nd Hd a = x → gd x = true → folB (Y 6) x a Hd = true → u ≤ nx (a ||| x) + n1 x) ∧ (u < 99 → ∃ x, x &&& nd Hd a = x ∧ gd x = true ∧ folB (Y 6) x a Hd = true ∧ u = nx (a ||| x) + n1 x) := by
  have hc : nd Hd a < 512 := nd_lt (k := 9) hHd
  generalize hcc : nd Hd a = c at *
  have h := xlp_inv (b := bM_least_141 (nI Hd) (nI k) (nI a) (nI c)) (fun j (st : Int32 × Int32 × Mem) => ∃ (L : Mem) (u : Nat), (∀ j, j ≠ 8 → L j = L0 j) ∧ (∀ n, n ≠ 512 * k + a → L 8 n = L0 8 n) ∧ L 8 (512 * k + a) = nI u ∧ u ≤ 99 ∧ (u < 99 → ∃ x, x &&& c = x ∧ gd x = true ∧ folB (Y 6) x a Hd = true ∧ u = nx (a ||| x) + n1 x) ∧ ((∃ x, st = (nI x, 1, L) ∧ x &&& c = x ∧ rk c x + j = rk c c ∧ (∀ y, x < y → y &&& c = y → gd y = true → folB (Y 6) y a Hd = true → u ≤ nx (a ||| y) + n1 y)) ∨ (∃ v, st = (v, 0, L) ∧ (∀ y, y &&& c = y → gd y = true → folB (Y 6) y a Hd = true → u ≤ nx (a ||| y) + n1 y)))) (fun t => ∃ (v w : Int32) (L : Mem) (u : Nat), t = (v, w, L) ∧ (∀ j, j ≠ 8 → L j = L0 j) ∧ (∀ n, n ≠ 512 * k + a → L 8 n = L0 8 n) ∧ L 8 (512 * k + a) = nI u ∧ u ≤ 99 ∧ (∀ y, y &&& c = y → gd y = true → folB (Y 6) y a Hd = true → u ≤ nx (a ||| y) + n1 y) ∧ (u < 99 → ∃ x, x &&& c = x ∧ gd x = true ∧ folB (Y 6) x a Hd = true ∧ u = nx (a ||| x) + n1 x)) (rk c c + 1) ?_ (nI c, 1, L0) ⟨L0, 99, fun _ _ => rfl, fun _ _ => rfl, h99, Nat.le_refl _, fun h => absurd h (Nat.lt_irrefl _), Or.inl ⟨c, rfl, Nat.and_self c, rfl, fun y hy hyc => absurd (sub_le hyc) (by omega)⟩⟩
  · obtain ⟨t, t1, v, w, L, u, rfl, t2⟩ := h
    exact ⟨v, w, L, u, t1, t2⟩
  · rintro j st hj ⟨L, u, f1, f2, f3, f4, f5, hcase⟩
    rcases hcase with ⟨x, rfl, hx, hrx, f6⟩ | ⟨v, rfl, f6⟩
    · have hxc : x ≤ c := sub_le hx
      have hx512 : x < 512 := by omega
      have hjle : j < rk c c + 1 := by omega
      refine Or.inr ⟨hjle, ?_⟩
      dsimp only [bM_least_141, gM_least_141]
      have hor : a ||| x < 512 := Nat.or_lt_two_pow (n := 9) ha hx512
      have hnb := hnl _ hor
      have hn1 : n1 x ≤ 1 := Bool.toNat_le _
      -- the rest of the turn
      have tail : ∀ (N : Mem) (u' : Nat), (∀ j, j ≠ 8 → N j = L0 j) → (∀ n, n ≠ 512 * k + a → N 8 n = L0 8 n) → N 8 (512 * k + a) = nI u' → u' ≤ 99 → (u' < 99 → ∃ x, x &&& c = x ∧ gd x = true ∧ folB (Y 6) x a Hd = true ∧ u' = nx (a ||| x) + n1 x) → (∀ y, x < y → y &&& c = y → gd y = true → folB (Y 6) y a Hd = true → u' ≤ nx (a ||| y) + n1 y) → (gd x = true → folB (Y 6) x a Hd = true → u' ≤ nx (a ||| x) + n1 x) →
          ∃ s', fM_least_230 (nI Hd) (nI k) (nI a) (nI c) (nI x) N = some (.inr s') ∧ ∃ (L : Mem) (u : Nat), (∀ j, j ≠ 8 → L j = L0 j) ∧ (∀ n, n ≠ 512 * k + a → L 8 n = L0 8 n) ∧ L 8 (512 * k + a) = nI u ∧ u ≤ 99 ∧ (u < 99 → ∃ x, x &&& c = x ∧ gd x = true ∧ folB (Y 6) x a Hd = true ∧ u = nx (a ||| x) + n1 x) ∧ ((∃ x, s' = (nI x, 1, L) ∧ x &&& c = x ∧ rk c x + (j + 1) = rk c c ∧ (∀ y, x < y → y &&& c = y → gd y = true → folB (Y 6) y a Hd = true → u ≤ nx (a ||| y) + n1 y)) ∨ (∃ v, s' = (v, 0, L) ∧ (∀ y, y &&& c = y → gd y = true → folB (Y 6) y a Hd = true → u ≤ nx (a ||| y) + n1 y))) := by
        intro N u' g1 g2 g3 g4 g5 g6 g7
        unfold fM_least_230 fM_least_240
        simp only [xlt_eq]
        by_cases h0 : x = 0
        · subst h0
          rw [if_pos (by decide)]
          refine ⟨_, rfl, N, u', g1, g2, g3, g4, g5, Or.inr ⟨_, rfl, fun y hy hg hf => ?_⟩⟩
          rcases Nat.eq_zero_or_pos y with e | e
          · subst e; exact g7 hg hf
          · exact g6 y e hy hg hf
        · rw [if_neg (nI_nle (by omega) (by omega))]
          obtain ⟨w, hw⟩ : ∃ w, x = w + 1 := ⟨x - 1, by omega⟩
          have e1 : (nI x - 1) &&& nI c = nI ((x - 1) &&& c) := by rw [hw, sit1, nI_and]; rfl
          rw [e1]
          have hstep := rk_step hx (by omega)
          refine ⟨_, rfl, N, u', g1, g2, g3, g4, g5, Or.inl ⟨(x - 1) &&& c, rfl, prd_sub x c, by omega, fun y hy hyc hg hf => ?_⟩⟩
          rcases Nat.lt_trichotomy y x with hl | hl | hl
          · have := pred_ok x c y hx hyc hl; omega
          · subst hl; exact g7 hg hf
          · exact g6 y hl hyc hg hf
      have body : ∀ t : Nat, t = n1 x → ∃ s', fM_least_175 (nI Hd) (nI k) (nI a) (nI c) (nI x) (nI t) (nI (nx (a ||| x))) L = some (.inr s') ∧ ∃ (L : Mem) (u : Nat), (∀ j, j ≠ 8 → L j = L0 j) ∧ (∀ n, n ≠ 512 * k + a → L 8 n = L0 8 n) ∧ L 8 (512 * k + a) = nI u ∧ u ≤ 99 ∧ (u < 99 → ∃ x, x &&& c = x ∧ gd x = true ∧ folB (Y 6) x a Hd = true ∧ u = nx (a ||| x) + n1 x) ∧ ((∃ x, s' = (nI x, 1, L) ∧ x &&& c = x ∧ rk c x + (j + 1) = rk c c ∧ (∀ y, x < y → y &&& c = y → gd y = true → folB (Y 6) y a Hd = true → u ≤ nx (a ||| y) + n1 y)) ∨ (∃ v, s' = (v, 0, L) ∧ (∀ y, y &&& c = y → gd y = true → folB (Y 6) y a Hd = true → u ≤ nx (a ||| y) + n1 y))) := by
        intro t ht
        subst ht
        unfold fM_least_175
        have hg11 : L 11 x = bz (gd x) := by rw [f1 11 (by decide)]; exact h11 x hx512
        rw [xlt_eq, nI_add, xgd_pos (vi_ hx512 (by decide)), cl_ (show x < 100000 by omega), hg11, ix512, xlt_eq, xgd_pos (vi_ (show 512 * k + a < 3584 by omega) (by decide)), cl_ (show 512 * k + a < 100000 by omega), f3, xM_follows (Y := Y) (by rw [f1 6 (by decide)]; exact m6) hx512 ha hHd, xbd_eq, xgd_pos (vi_ (show 512 * k + a < 3584 by omega) (by decide)), xlt_eq]
        cases hg : gd x with
        | false => rw [if_pos (by decide)]; exact tail L u f1 f2 f3 f4 f5 f6 (fun h => by rw [hg] at h; cases h)
        | true =>
          rw [if_neg (by decide)]
          by_cases hle : u ≤ nx (a ||| x) + n1 x
          · rw [if_pos ((nIle (by omega) (by omega)).mpr hle)]; exact tail L u f1 f2 f3 f4 f5 f6 (fun _ _ => hle)
          · rw [if_neg (fun e9 => hle ((nIle (by omega) (by omega)).mp e9))]
            cases hf : folB (Y 6) x a Hd with
            | false => rw [if_pos (by decide)]; exact tail L u f1 f2 f3 f4 f5 f6 (fun _ h => by rw [hf] at h; cases h)
            | true =>
              rw [if_neg (by decide)]
              refine tail (up2 L 8 (512 * k + a) (nI (nx (a ||| x) + n1 x))) (nx (a ||| x) + n1 x) (fun j hj => by rw [up2_ne hj]; exact f1 j hj) (fun n hn => by rw [up2_same, pk_un hn]; exact f2 n hn) (up2_at _ _ _ _) (by omega) (fun _ => ⟨x, hx, hg, hf, rfl⟩) (fun y hy hyc hgy hfy => ?_) (fun _ _ => Nat.le_refl _)
              have := f6 y hy hyc hgy hfy
              omega
      have hcur : L 8 (512 * (k + 1) + (a ||| x)) = nI (nx (a ||| x)) := by rw [f2 _ (by omega)]; exact hnx _ hor
      rw [if_neg n10, nI_or, ix512b, xlt_eq, xgd_pos (vi_ (show 512 * (k + 1) + (a ||| x) < 3584 by omega) (by decide)), cl_ (show 512 * (k + 1) + (a ||| x) < 100000 by omega), hcur]
      by_cases h0 : x = 0
      · rw [if_pos (by rw [h0]; rfl)]
        exact body 0 (by rw [h0]; rfl)
      · rw [if_neg (fun e9 => h0 ((nI_zero (by omega)).mp e9))]
        exact body 1 (by unfold n1; rw [decide_eq_true h0]; rfl)
    · refine Or.inl ⟨(v, 0, L), ?_, v, 0, L, u, rfl, f1, f2, f3, f4, f6, f5⟩
      dsimp only [bM_least_141, gM_least_141]
      exact if_pos rfl
/-- a whole level -/
theorem level_up {L : Mem} {k : Nat} {Y : Mem} {Hd : Nat} (hHd : Hd < 512) (hk : k < 6) (m6 : L 6 = Y 6) (h10 : ∀ set, set < 512 → L 10 (512 * k + set) = bz (mayB Y k set Hd)) {nx : Nat → Nat} (hnx : ∀ y, y < 512 → L 8 (512 * (k + 1) + y) = nI (nx y)) (hnl : ∀ y, y < 512 → nx y ≤ 99) :
    ∃ (L' : Mem) (vk : Nat → Nat), (bM_least_38 (nI Hd)) (nI k, L) = some (.inr (nI k - 1, L')) ∧ (∀ j, j ≠ 8 → j ≠ 11 → L' j = L j) ∧ (∀ a, a < 512 → L' 8 (512 * k + a) = nI (vk a)) ∧ (∀ n, 512 * (k + 1) ≤ n → L' 8 n = L 8 n) ∧ lvl (fun x => mayB Y k x Hd && kepB (L 9) k x) (fun x a => folB (Y 6) x a Hd) Hd nx vk := by
  -- the good sets
  have hg := xlp_inv (b := bM_least_44 (nI Hd) (nI k)) (fun t (st : Int32 × Mem) => ∃ N : Mem, st = (nI t, N) ∧ (∀ j, j ≠ 11 → N j = L j) ∧ (∀ x, x < t → N 11 x = bz (mayB Y k x Hd && kepB (L 9) k x))) (fun t => ∃ (v : Int32) (N : Mem), t = (v, N) ∧ (∀ j, j ≠ 11 → N j = L j) ∧ (∀ x, x < 512 → N 11 x = bz (mayB Y k x Hd && kepB (L 9) k x))) 512 ?_ (0, L) ⟨L, rfl, fun _ _ => rfl, fun x hx => absurd hx (Nat.not_lt_zero x)⟩
  · obtain ⟨t, t1, v, N, rfl, g1, g2⟩ := hg
    -- the cells
    have hc := xlp_inv (b := bM_least_94 (nI Hd) (nI k)) (fun t (st : Int32 × Mem) => ∃ (K : Mem) (vk : Nat → Nat), st = (nI t, K) ∧ (∀ j, j ≠ 8 → K j = N j) ∧ (∀ a, a < t → K 8 (512 * k + a) = nI (vk a)) ∧ (∀ n, 512 * (k + 1) ≤ n → K 8 n = N 8 n) ∧ (∀ a, a < t → vk a ≤ 99 ∧ (a &&& Hd = a → (∀ x, x &&& nd Hd a = x → (mayB Y k x Hd && kepB (L 9) k x) = true → folB (Y 6) x a Hd = true → vk a ≤ nx (a ||| x) + n1 x) ∧ (vk a < 99 → ∃ x, x &&& nd Hd a = x ∧ (mayB Y k x Hd && kepB (L 9) k x) = true ∧ folB (Y 6) x a Hd = true ∧ vk a = nx (a ||| x) + n1 x)))) (fun t => ∃ (v : Int32) (K : Mem) (vk : Nat → Nat), t = (v, K) ∧ (∀ j, j ≠ 8 → K j = N j) ∧ (∀ a, a < 512 → K 8 (512 * k + a) = nI (vk a)) ∧ (∀ n, 512 * (k + 1) ≤ n → K 8 n = N 8 n) ∧ lvl (fun x => mayB Y k x Hd && kepB (L 9) k x) (fun x a => folB (Y 6) x a Hd) Hd nx vk) 512 ?_ (0, N) ⟨N, fun _ => 0, rfl, fun _ _ => rfl, fun a ha => absurd ha (Nat.not_lt_zero a), fun _ _ => rfl, fun a ha => absurd ha (Nat.not_lt_zero a)⟩
    · obtain ⟨t', u1, v', K, vk, rfl, k1, k2, k3, k4⟩ := hc
      refine ⟨K, vk, ?_, fun j h1 h2 => (k1 j h1).trans (g1 j h2), k2, fun n hn => by rw [k3 n hn, g1 8 (by decide)], k4⟩
      dsimp only [bM_least_38, gM_least_38]
      rw [if_neg (nI_pos (by omega)), t1, xbd_eq]
      unfold fM_least_92
      dsimp only
      rw [u1, xbd_eq]
      unfold fM_least_260
      rw [xlt_eq, sub1]
    · rintro a st ha ⟨K, vk, rfl, k1, k2, k3, k4⟩
      dsimp only [bM_least_94, gM_least_94]
      by_cases e : a = 512
      · subst e
        exact Or.inl ⟨_, if_pos (Int32.le_refl (nI 512)), _, K, vk, rfl, k1, k2, k3, fun a ha => k4 a ha⟩
      · have ha' : a < 512 := by omega
        refine Or.inr ⟨ha', ?_⟩
        have fr : ∀ j, j ≠ 8 → up2 K 8 (512 * k + a) 99 j = N j := fun j hj => by rw [up2_ne hj]; exact k1 j hj
        rw [if_neg (show ¬ (512 : Int32) ≤ nI a from nI_ltc ha' (by decide)), ix512, xgd_pos (vi_ (show 512 * k + a < 3584 by omega) (by decide)), cl_ (show 512 * k + a < 100000 by omega), xlt_eq, nI_nd _ (show Hd < 2 ^ 31 by omega), nI_nd _ (show a < 2 ^ 31 by omega), xlt_eq]
        unfold fM_least_139
        have fin : ∀ (v w : Int32) (K' : Mem) (u : Nat), (∀ j, j ≠ 8 → K' j = N j) → (∀ n, n ≠ 512 * k + a → K' 8 n = K 8 n) → K' 8 (512 * k + a) = nI u → u ≤ 99 → (a &&& Hd = a → (∀ x, x &&& nd Hd a = x → (mayB Y k x Hd && kepB (L 9) k x) = true → folB (Y 6) x a Hd = true → u ≤ nx (a ||| x) + n1 x) ∧ (u < 99 → ∃ x, x &&& nd Hd a = x ∧ (mayB Y k x Hd && kepB (L 9) k x) = true ∧ folB (Y 6) x a Hd = true ∧ u = nx (a ||| x) + n1 x)) →
            ∃ s', fM_least_254 (nI Hd) (nI k) (nI a) (v, w, K').2.2 = some (.inr s') ∧ ∃ (K : Mem) (vk : Nat → Nat), s' = (nI (a + 1), K) ∧ (∀ j, j ≠ 8 → K j = N j) ∧ (∀ a', a' < a + 1 → K 8 (512 * k + a') = nI (vk a')) ∧ (∀ n, 512 * (k + 1) ≤ n → K 8 n = N 8 n) ∧ (∀ a', a' < a + 1 → vk a' ≤ 99 ∧ (a' &&& Hd = a' → (∀ x, x &&& nd Hd a' = x → (mayB Y k x Hd && kepB (L 9) k x) = true → folB (Y 6) x a' Hd = true → vk a' ≤ nx (a' ||| x) + n1 x) ∧ (vk a' < 99 → ∃ x, x &&& nd Hd a' = x ∧ (mayB Y k x Hd && kepB (L 9) k x) = true ∧ folB (Y 6) x a' Hd = true ∧ vk a' = nx (a' ||| x) + n1 x))) := by
          intro v w K' u q1 q2 q3 q4 q5
          unfold fM_least_254
          rw [xlt_eq, nI_1]
          refine ⟨_, rfl, K', un vk a u, rfl, q1, fun a' h' => ?_, fun n hn => by rw [q2 n (by omega)]; exact k3 n hn, fun a' h' => ?_⟩
          · by_cases e2 : a' = a
            · subst e2; rw [un_s]; exact q3
            · rw [un_n e2, q2 _ (by omega)]; exact k2 a' (by omega)
          · by_cases e2 : a' = a
            · subst e2; rw [un_s]; exact ⟨q4, q5⟩
            · rw [un_n e2]; exact k4 a' (by omega)
        by_cases hsub : nd a Hd = 0
        · rw [if_pos (by rw [hsub]; rfl)]
          have haH := nd_self' hsub
          obtain ⟨v, w, L1, u, r1, r2, r3, r4, r5, r6, r7⟩ := cell_up (L0 := up2 K 8 (512 * k + a) 99) (k := k) (a := a) (gd := fun x => mayB Y k x Hd && kepB (L 9) k x) (Y := Y) hHd hk ha' haH (by rw [fr 6 (by decide), g1 6 (by decide)]; exact m6) (nx := nx) (fun x hx => by rw [fr 11 (by decide)]; exact g2 x hx) (fun y hy => by rw [up2_same, pk_un (by omega), k3 _ (by omega), g1 8 (by decide)]; exact hnx y hy) hnl (up2_at _ _ _ _)
          rw [r1, xbd_eq]
          exact fin v w L1 u (fun j hj => (r2 j hj).trans (fr j hj)) (fun n hn => by rw [r3 n hn, up2_same, pk_un hn]) r4 r5 (fun _ => ⟨r6, r7⟩)
        · rw [if_neg (fun e9 => hsub ((nI_zero (Nat.lt_of_le_of_lt (nd_le _ _) (by omega))).mp e9))]
          rw [xlp_end (b := bM_least_141 (nI Hd) (nI k) (nI a) (nI (nd Hd a))) (s := (nI (nd Hd a), 0, up2 K 8 (512 * k + a) 99)) (r := (nI (nd Hd a), 0, up2 K 8 (512 * k + a) 99)) (by dsimp only [bM_least_141, gM_least_141]; exact if_pos rfl), xbd_eq]
          exact fin _ _ _ 99 fr (fun n hn => by rw [up2_same, pk_un hn]) (up2_at _ _ _ _) (Nat.le_refl _) (fun h => absurd (nd_self h) hsub)
  · rintro t st ht ⟨N, rfl, g1, g2⟩
    dsimp only [bM_least_44, gM_least_44]
    by_cases e : t = 512
    · subst e
      exact Or.inl ⟨_, if_pos (Int32.le_refl (nI 512)), _, N, rfl, g1, g2⟩
    · have ht' : t < 512 := by omega
      refine Or.inr ⟨ht', ?_⟩
      have e10 : N 10 (512 * k + t) = bz (mayB Y k t Hd) := by rw [g1 10 (by decide)]; exact h10 t ht'
      have e9 : N 9 = L 9 := g1 9 (by decide)
      rw [if_neg (show ¬ (512 : Int32) ≤ nI t from nI_ltc ht' (by decide)), ix512, xlt_eq, xgd_pos (vi_ (show 512 * k + t < 3072 by omega) (by decide)), cl_ (show 512 * k + t < 100000 by omega), xM_keeps ht', xbd_eq, e9]
      unfold fM_least_84 fM_least_85
      rw [xgd_pos (vi_ ht' (by decide)), xgd_pos (vi_ ht' (by decide)), cl_ (show t < 100000 by omega), xlt_eq, xlt_eq, xlt_eq, xlt_eq, nI_1, show vp_nar .boolean 0 = bz false from bz_nar false, show vp_nar .boolean 1 = bz true from bz_nar true]
      have fin : ∀ z : Bool, z = (mayB Y k t Hd && kepB (L 9) k t) → ∃ s', (some (Sum.inr (nI (t + 1), up2 N 11 t (bz z))) : Option ((Int32 × Mem) ⊕ (Int32 × Mem))) = some (.inr s') ∧ ∃ N : Mem, s' = (nI (t + 1), N) ∧ (∀ j, j ≠ 11 → N j = L j) ∧ (∀ x, x < t + 1 → N 11 x = bz (mayB Y k x Hd && kepB (L 9) k x)) := by
        intro z hz
        refine ⟨_, rfl, _, rfl, fun j hj => by rw [up2_ne hj]; exact g1 j hj, fun x hx => ?_⟩
        rw [up2_same]
        by_cases e2 : x = t
        · subst e2; rw [pk_us, hz]
        · rw [pk_un e2]; exact g2 x (by omega)
      cases h1 : mayB Y k t Hd with
      | false => rw [if_pos (show N 10 (512 * k + t) = 0 by rw [e10, h1]; rfl)]; exact fin false (by rw [h1]; rfl)
      | true =>
        rw [if_neg (show ¬ N 10 (512 * k + t) = 0 by rw [e10, h1]; decide)]
        cases h2 : kepB (L 9) k t with
        | false => rw [if_pos (by decide)]; exact fin false (by rw [h1, h2]; rfl)
        | true => rw [if_neg (by decide)]; exact fin true (by rw [h1, h2]; rfl)
/-- the table, whole -/
def LTok (Y : Mem) (bd : Nat → Int32) (Hd : Nat) (Nf : Nat → Nat → Nat) : Prop := (∀ a, a < 512 → Nf 6 a = if a = Hd then 0 else 99) ∧ ∀ k, k < 6 → lvl (fun x => mayB Y k x Hd && kepB bd k x) (fun x a => folB (Y 6) x a Hd) Hd (Nf (k + 1)) (Nf k)
theorem xM_least {M Y : Mem} {Hd : Nat} (hHd : Hd < 512) (m6 : M 6 = Y 6) (h10 : ∀ s set, s < 6 → set < 512 → M 10 (512 * s + set) = bz (mayB Y s set Hd)) : ∃ (M' : Mem) (Nf : Nat → Nat → Nat), fM_least (nI Hd) M = some (nI (Nf 0 0), M') ∧ (∀ j, j ≠ 8 → j ≠ 11 → M' j = M j) ∧ LTok Y (M 9) Hd Nf := by
  have h6 := xlp_inv (b := bM_least_2 (nI Hd)) (fun t (st : Int32 × Mem) => ∃ N : Mem, st = (nI t, N) ∧ (∀ j, j ≠ 8 → N j = M j) ∧ (∀ a, a < t → N 8 (3072 + a) = nI (if a = Hd then 0 else 99))) (fun t => ∃ (v : Int32) (N : Mem), t = (v, N) ∧ (∀ j, j ≠ 8 → N j = M j) ∧ (∀ a, a < 512 → N 8 (3072 + a) = nI (if a = Hd then 0 else 99))) 512 ?_ (0, M) ⟨M, rfl, fun _ _ => rfl, fun a ha => absurd ha (Nat.not_lt_zero a)⟩
  · obtain ⟨t, t1, v, N, rfl, g1, g2⟩ := h6
    have hs := xlp_inv (b := bM_least_38 (nI Hd)) (fun j (st : Int32 × Mem) => ∃ (L : Mem) (Nf : Nat → Nat → Nat), st = (nI (6 - j) - 1, L) ∧ (∀ i, i ≠ 8 → i ≠ 11 → L i = M i) ∧ (∀ k a, 6 - j ≤ k → k ≤ 6 → a < 512 → L 8 (512 * k + a) = nI (Nf k a)) ∧ (∀ a, a < 512 → Nf 6 a = if a = Hd then 0 else 99) ∧ (∀ k, 6 - j ≤ k → k < 6 → lvl (fun x => mayB Y k x Hd && kepB (M 9) k x) (fun x a => folB (Y 6) x a Hd) Hd (Nf (k + 1)) (Nf k))) (fun t => ∃ (v : Int32) (L : Mem) (Nf : Nat → Nat → Nat), t = (v, L) ∧ (∀ i, i ≠ 8 → i ≠ 11 → L i = M i) ∧ (∀ k a, k ≤ 6 → a < 512 → L 8 (512 * k + a) = nI (Nf k a)) ∧ LTok Y (M 9) Hd Nf) 6 ?_ (5, N) ⟨N, fun _ a => if a = Hd then 0 else 99, rfl, fun i hi _ => g1 i hi, fun k a h1 h2 ha => by rw [show k = 6 by omega]; exact g2 a ha, fun _ _ => rfl, fun k h1 h2 => by omega⟩
    · obtain ⟨t', u1, v', L, Nf, rfl, l1, l2, l3⟩ := hs
      refine ⟨L, Nf, ?_, l1, l3⟩
      unfold fM_least fM_least_36
      rw [t1, xbd_eq, u1, xbd_eq]
      unfold fM_least_266
      rw [xgd_pos (show vp_in 0 3584 from vi_ (j := 0) (by decide) (by decide))]
      dsimp only
      rw [show L 8 (0 : Int32).toNatClampNeg = nI (Nf 0 0) from l2 0 0 (by decide) (by decide)]
    · rintro j st hj ⟨L, Nf, rfl, l1, l2, l3, l4⟩
      by_cases e : j = 6
      · subst e
        refine Or.inl ⟨(nI (6 - 6) - 1, L), ?_, _, L, Nf, rfl, l1, fun k a hk ha => l2 k a (by omega) hk ha, l3, fun k hk => l4 k (by omega) hk⟩
        dsimp only [bM_least_38, gM_least_38]
        exact if_pos (by decide)
      · obtain ⟨k, hk⟩ : ∃ k, 6 - j = k + 1 := ⟨5 - j, by omega⟩
        have hk6 : k < 6 := by omega
        refine Or.inr ⟨by omega, ?_⟩
        have hnl : ∀ y, y < 512 → Nf (k + 1) y ≤ 99 := by
          intro y hy
          by_cases e5 : k + 1 = 6
          · rw [e5, l3 y hy]; split <;> omega
          · exact (l4 (k + 1) (by omega) (by omega) y hy).1
        obtain ⟨L', vk, v1, v2, v3, v4, v5⟩ := level_up (L := L) (k := k) (Y := Y) hHd hk6 (by rw [l1 6 (by decide) (by decide)]; exact m6) (fun set hset => by rw [l1 10 (by decide) (by decide)]; exact h10 k set hk6 hset) (nx := Nf (k + 1)) (fun y hy => l2 (k + 1) y (by omega) (by omega) hy) hnl
        rw [hk, sit1, v1]
        rw [l1 9 (by decide) (by decide)] at v5
        refine ⟨_, rfl, L', fun s => if s = k then vk else Nf s, by rw [show 6 - (j + 1) = k by omega], fun i h1 h2 => (v2 i h1 h2).trans (l1 i h1 h2), fun k' a h1 h2 ha => ?_, fun a ha => ?_, fun k' h1 h2 => ?_⟩
        · dsimp only
          by_cases e2 : k' = k
          · subst e2; rw [if_pos rfl]; exact v3 a ha
          · rw [if_neg e2, v4 _ (by omega)]; exact l2 k' a (by omega) h2 ha
        · dsimp only; rw [if_neg (by omega)]; exact l3 a ha
        · dsimp only
          rw [if_neg (show ¬ k' + 1 = k by omega)]
          by_cases e2 : k' = k
          · subst e2; rw [if_pos rfl]; exact v5
          · rw [if_neg e2]; exact l4 k' (by omega) h2
  · rintro t st ht ⟨N, rfl, g1, g2⟩
    dsimp only [bM_least_2, gM_least_2]
    by_cases e : t = 512
    · subst e
      exact Or.inl ⟨_, if_pos (Int32.le_refl (nI 512)), _, N, rfl, g1, g2⟩
    · have ht' : t < 512 := by omega
      refine Or.inr ⟨ht', ?_⟩
      unfold fM_least_29
      rw [if_neg (show ¬ (512 : Int32) ≤ nI t from nI_ltc ht' (by decide)), show (3072 : Int32) + nI t = nI (3072 + t) from nI_add 3072 t, xgd_pos (vi_ (show 3072 + t < 3584 by omega) (by decide)), xgd_pos (vi_ (show 3072 + t < 3584 by omega) (by decide)), cl_ (show 3072 + t < 100000 by omega), xlt_eq, xlt_eq, xlt_eq, xlt_eq, nI_1]
      have fin : ∀ w : Nat, w = (if t = Hd then 0 else 99) → ∃ s', (some (Sum.inr (nI (t + 1), up2 N 8 (3072 + t) (nI w))) : Option ((Int32 × Mem) ⊕ (Int32 × Mem))) = some (.inr s') ∧ ∃ N : Mem, s' = (nI (t + 1), N) ∧ (∀ j, j ≠ 8 → N j = M j) ∧ (∀ a, a < t + 1 → N 8 (3072 + a) = nI (if a = Hd then 0 else 99)) := by
        intro w hw
        refine ⟨_, rfl, _, rfl, fun j hj => by rw [up2_ne hj]; exact g1 j hj, fun a ha => ?_⟩
        rw [up2_same]
        by_cases e2 : a = t
        · subst e2; rw [pk_us, hw]
        · rw [pk_un (by omega)]; exact g2 a (by omega)
      by_cases c : t = Hd
      · rw [if_pos (by rw [c])]; exact fin 0 (by rw [if_pos c])
      · rw [if_neg (fun e9 => c ((nI_eq (by omega) (by omega)).mp e9))]; exact fin 99 (by rw [if_neg c])
