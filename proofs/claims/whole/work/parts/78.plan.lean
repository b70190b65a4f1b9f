/-! ===== plan ===== -/
theorem pre_M {Z : Mem} (hb : Z 9 = Z 9) : ∃ (v : Int32) (M1 : Mem), xlp (bM_plan_16 (nI (heldS (Z 1)))) (0, Z) = some (v, M1) ∧ (∀ j, j ≠ 9 → j ≠ 12 → M1 j = Z j) ∧ (∀ p, p < 9 → M1 9 p = -1) ∧ (∀ p q, p < 9 → q < 9 → M1 12 (9 * p + q) = bz (clP (Z 4) p q)) := by
  have inner : ∀ (p : Nat) (N : Mem), p < 9 → (∀ j, j ≠ 9 → j ≠ 12 → N j = Z j) → ∃ (v : Int32) (N' : Mem), xlp (bM_plan_31 (nI (heldS (Z 1))) (nI p)) (0, N) = some (v, N') ∧ (∀ j, j ≠ 12 → N' j = N j) ∧ (∀ q, q < 9 → N' 12 (9 * p + q) = bz (clP (Z 4) p q)) ∧ (∀ n, n < 9 * p → N' 12 n = N 12 n) := by
    intro p N hp hN
    have h := xlp_inv (b := bM_plan_31 (nI (heldS (Z 1))) (nI p)) (fun q (st : Int32 × Mem) => ∃ L : Mem, st = (nI q, L) ∧ (∀ j, j ≠ 12 → L j = N j) ∧ (∀ q', q' < q → L 12 (9 * p + q') = bz (clP (Z 4) p q')) ∧ (∀ n, n < 9 * p → L 12 n = N 12 n)) (fun t => ∃ (v : Int32) (L : Mem), t = (v, L) ∧ (∀ j, j ≠ 12 → L j = N j) ∧ (∀ q', q' < 9 → L 12 (9 * p + q') = bz (clP (Z 4) p q')) ∧ (∀ n, n < 9 * p → L 12 n = N 12 n)) 9 ?_ (0, N) ⟨N, rfl, fun _ _ => rfl, fun q hq => absurd hq (Nat.not_lt_zero q), fun _ _ => rfl⟩
    · obtain ⟨t, t1, v, L, rfl, t2⟩ := h
      exact ⟨v, L, t1, t2⟩
    · rintro q st hq ⟨L, rfl, f1, f2, f3⟩
      dsimp only [bM_plan_31, gM_plan_31]
      by_cases e : q = 9
      · subst e
        exact Or.inl ⟨_, if_pos (Int32.le_refl (nI 9)), _, L, rfl, f1, f2, f3⟩
      · have hq' : q < 9 := by omega
        refine Or.inr ⟨hq', ?_⟩
        have e4 : L 4 = Z 4 := by rw [f1 4 (by decide), hN 4 (by decide) (by decide)]
        have hc := cnt_le (bothP (Z 4) p q) 40
        rw [if_neg (show ¬ (9 : Int32) ≤ nI q from nI_ltc hq' (by decide)), xM_common hp hq', xbd_eq, e4, ix9]
        unfold fM_plan_61
        rw [xgd_pos (vi_ (show 9 * p + q < 81 by omega) (by decide)), xgd_pos (vi_ (show 9 * p + q < 81 by omega) (by decide)), cl_ (show 9 * p + q < 100000 by omega), xlt_eq, xlt_eq, xlt_eq, xlt_eq, nI_1, show vp_nar .boolean 0 = bz false from bz_nar false, show vp_nar .boolean 1 = bz true from bz_nar true]
        have fin : ∀ z : Bool, z = clP (Z 4) p q → ∃ s', (some (Sum.inr (nI (q + 1), up2 L 12 (9 * p + q) (bz z))) : Option ((Int32 × Mem) ⊕ (Int32 × Mem))) = some (.inr s') ∧ ∃ L : Mem, s' = (nI (q + 1), L) ∧ (∀ j, j ≠ 12 → L j = N j) ∧ (∀ q', q' < q + 1 → L 12 (9 * p + q') = bz (clP (Z 4) p q')) ∧ (∀ n, n < 9 * p → L 12 n = N 12 n) := by
          intro z hz
          refine ⟨_, rfl, _, rfl, fun j hj => by rw [up2_ne hj]; exact f1 j hj, fun q' h' => ?_, fun n hn => by rw [up2_same, pk_un (by omega)]; exact f3 n hn⟩
          rw [up2_same]
          by_cases e2 : q' = q
          · subst e2; rw [pk_us, hz]
          · rw [pk_un (by omega)]; exact f2 q' (by omega)
        by_cases c : cnt (bothP (Z 4) p q) 40 = 0
        · rw [if_pos (by rw [c]; decide)]; exact fin false (by unfold clP; rw [decide_eq_true c]; rfl)
        · rw [if_neg (nI_nle (by omega) (by omega))]; exact fin true (by unfold clP; rw [decide_eq_false c]; rfl)
  have h := xlp_inv (b := bM_plan_16 (nI (heldS (Z 1)))) (fun p (st : Int32 × Mem) => ∃ L : Mem, st = (nI p, L) ∧ (∀ j, j ≠ 9 → j ≠ 12 → L j = Z j) ∧ (∀ p', p' < p → L 9 p' = -1) ∧ (∀ p' q, p' < p → q < 9 → L 12 (9 * p' + q) = bz (clP (Z 4) p' q))) (fun t => ∃ (v : Int32) (L : Mem), t = (v, L) ∧ (∀ j, j ≠ 9 → j ≠ 12 → L j = Z j) ∧ (∀ p', p' < 9 → L 9 p' = -1) ∧ (∀ p' q, p' < 9 → q < 9 → L 12 (9 * p' + q) = bz (clP (Z 4) p' q))) 9 ?_ (0, Z) ⟨Z, rfl, fun _ _ _ => rfl, fun p hp => absurd hp (Nat.not_lt_zero p), fun p q hp => absurd hp (Nat.not_lt_zero p)⟩
  · obtain ⟨t, t1, v, L, rfl, t2⟩ := h
    exact ⟨v, L, t1, t2⟩
  · rintro p st hp ⟨L, rfl, f1, f2, f3⟩
    dsimp only [bM_plan_16, gM_plan_16]
    by_cases e : p = 9
    · subst e
      exact Or.inl ⟨_, if_pos (Int32.le_refl (nI 9)), _, L, rfl, f1, f2, f3⟩
    · have hp' : p < 9 := by omega
      refine Or.inr ⟨hp', ?_⟩
      obtain ⟨v, N', n1', n2, n3, n4⟩ := inner p (up2 L 9 p (-1)) hp' (fun j h1 h2 => by rw [up2_ne h1]; exact f1 j h1 h2)
      rw [if_neg (show ¬ (9 : Int32) ≤ nI p from nI_ltc hp' (by decide)), xgd_pos (vi_ hp' (by decide)), xlt_eq, cl_ (show p < 100000 by omega), n1', xbd_eq]
      unfold fM_plan_68
      rw [xlt_eq, nI_1]
      refine ⟨_, rfl, N', rfl, fun j h1 h2 => by rw [n2 j h2, up2_ne h1]; exact f1 j h1 h2, fun p' h' => ?_, fun p' q h' hq => ?_⟩
      · rw [n2 9 (by decide), up2_same]
        by_cases e2 : p' = p
        · subst e2; exact pk_us
        · rw [pk_un e2]; exact f2 p' (by omega)
      · by_cases e2 : p' = p
        · subst e2; exact n3 q hq
        · rw [n4 _ (by omega), up2_ne (by decide)]; exact f3 p' q (by omega) hq
theorem may_M {M1 Y : Mem} {Hd : Nat} (hHd : Hd < 512) (hM : ∀ j, 1 ≤ j → j < 7 → M1 j = Y j) (h12 : ∀ p q, p < 9 → q < 9 → M1 12 (9 * p + q) = bz (clP (Y 4) p q)) : ∃ (v : Int32) (M2 : Mem), xlp (bM_plan_76 (nI Hd)) (0, M1) = some (v, M2) ∧ (∀ j, j ≠ 10 → M2 j = M1 j) ∧ (∀ s set, s < 6 → set < 512 → M2 10 (512 * s + set) = bz (mayB Y s set Hd)) := by
  have inner : ∀ (s : Nat) (N : Mem), s < 6 → (∀ j, j ≠ 10 → N j = M1 j) → ∃ (v : Int32) (N' : Mem), xlp (bM_plan_84 (nI Hd) (nI s)) (0, N) = some (v, N') ∧ (∀ j, j ≠ 10 → N' j = M1 j) ∧ (∀ x, x < 512 → N' 10 (512 * s + x) = bz (mayB Y s x Hd)) ∧ (∀ n, n < 512 * s → N' 10 n = N 10 n) := by
    intro s N hs hN
    have h := xlp_inv (b := bM_plan_84 (nI Hd) (nI s)) (fun t (st : Int32 × Mem) => ∃ L : Mem, st = (nI t, L) ∧ (∀ j, j ≠ 10 → L j = M1 j) ∧ (∀ x, x < t → L 10 (512 * s + x) = bz (mayB Y s x Hd)) ∧ (∀ n, n < 512 * s → L 10 n = N 10 n)) (fun t => ∃ (v : Int32) (L : Mem), t = (v, L) ∧ (∀ j, j ≠ 10 → L j = M1 j) ∧ (∀ x, x < 512 → L 10 (512 * s + x) = bz (mayB Y s x Hd)) ∧ (∀ n, n < 512 * s → L 10 n = N 10 n)) 512 ?_ (0, N) ⟨N, rfl, hN, fun x hx => absurd hx (Nat.not_lt_zero x), fun _ _ => rfl⟩
    · obtain ⟨t, t1, v, L, rfl, t2⟩ := h
      exact ⟨v, L, t1, t2⟩
    · rintro t st ht ⟨L, rfl, f1, f2, f3⟩
      dsimp only [bM_plan_84, gM_plan_84]
      by_cases e : t = 512
      · subst e
        exact Or.inl ⟨_, if_pos (Int32.le_refl (nI 512)), _, L, rfl, f1, f2, f3⟩
      · have ht' : t < 512 := by omega
        refine Or.inr ⟨ht', ?_⟩
        rw [if_neg (show ¬ (512 : Int32) ≤ nI t from nI_ltc ht' (by decide)), nI_nd _ (show t < 2 ^ 31 by omega), xM_fits (Y := Y) (fun j h1 h2 => by rw [f1 j (by omega)]; exact hM j h1 h2) (fun p q hp hq => by rw [f1 12 (by decide)]; exact h12 p q hp hq) hs ht' hHd, xbd_eq, ix512]
        unfold fM_plan_124 fM_plan_125
        rw [xgd_pos (vi_ (show 512 * s + t < 3072 by omega) (by decide)), xgd_pos (vi_ (show 512 * s + t < 3072 by omega) (by decide)), cl_ (show 512 * s + t < 100000 by omega), xlt_eq, xlt_eq, xlt_eq, xlt_eq, nI_1, show vp_nar .boolean 0 = bz false from bz_nar false, show vp_nar .boolean 1 = bz true from bz_nar true]
        have fin : ∀ z : Bool, z = mayB Y s t Hd → ∃ s', (some (Sum.inr (nI (t + 1), up2 L 10 (512 * s + t) (bz z))) : Option ((Int32 × Mem) ⊕ (Int32 × Mem))) = some (.inr s') ∧ ∃ L : Mem, s' = (nI (t + 1), L) ∧ (∀ j, j ≠ 10 → L j = M1 j) ∧ (∀ x, x < t + 1 → L 10 (512 * s + x) = bz (mayB Y s x Hd)) ∧ (∀ n, n < 512 * s → L 10 n = N 10 n) := by
          intro z hz
          refine ⟨_, rfl, _, rfl, fun j hj => by rw [up2_ne hj]; exact f1 j hj, fun x hx => ?_, fun n hn => by rw [up2_same, pk_un (by omega)]; exact f3 n hn⟩
          rw [up2_same]
          by_cases e2 : x = t
          · subst e2; rw [pk_us, hz]
          · rw [pk_un (by omega)]; exact f2 x (by omega)
        by_cases c : nd t Hd = 0
        · rw [if_pos (by rw [c]; rfl)]
          cases hf : fitsB Y s t Hd with
          | false => rw [if_pos (by decide)]; exact fin false (by unfold mayB; rw [hf, Bool.and_false])
          | true => rw [if_neg (by decide)]; exact fin true (by unfold mayB; rw [hf, decide_eq_true c]; rfl)
        · rw [if_neg (fun e9 => c ((nI_zero (Nat.lt_of_le_of_lt (nd_le _ _) (by omega))).mp e9))]
          exact fin false (by unfold mayB; rw [decide_eq_false c]; rfl)
  have h := xlp_inv (b := bM_plan_76 (nI Hd)) (fun s (st : Int32 × Mem) => ∃ L : Mem, st = (nI s, L) ∧ (∀ j, j ≠ 10 → L j = M1 j) ∧ (∀ s' x, s' < s → x < 512 → L 10 (512 * s' + x) = bz (mayB Y s' x Hd))) (fun t => ∃ (v : Int32) (L : Mem), t = (v, L) ∧ (∀ j, j ≠ 10 → L j = M1 j) ∧ (∀ s' x, s' < 6 → x < 512 → L 10 (512 * s' + x) = bz (mayB Y s' x Hd))) 6 ?_ (0, M1) ⟨M1, rfl, fun _ _ => rfl, fun s x hs => absurd hs (Nat.not_lt_zero s)⟩
  · obtain ⟨t, t1, v, L, rfl, t2⟩ := h
    exact ⟨v, L, t1, t2⟩
  · rintro s st hs ⟨L, rfl, f1, f2⟩
    dsimp only [bM_plan_76, gM_plan_76]
    by_cases e : s = 6
    · subst e
      exact Or.inl ⟨_, if_pos (Int32.le_refl (nI 6)), _, L, rfl, f1, f2⟩
    · have hs' : s < 6 := by omega
      refine Or.inr ⟨hs', ?_⟩
      obtain ⟨v, N', n1', n2, n3, n4⟩ := inner s L hs' f1
      rw [if_neg (show ¬ (6 : Int32) ≤ nI s from nI_ltc hs' (by decide)), n1', xbd_eq]
      unfold fM_plan_132
      rw [xlt_eq, nI_1]
      refine ⟨_, rfl, N', rfl, n2, fun s' x h' hx => ?_⟩
      by_cases e2 : s' = s
      · subst e2; exact n3 x hx
      · rw [n4 _ (by omega)]; exact f2 s' x (by omega) hx
/-! sessions of papers, and what is bound -/
theorem at_bit {V : Nat → Nat → Nat → Prop} (hV : ∀ s P A, V s P A → P &&& A = 0) {A : Nat → Nat} (hA : OkA V A 6) {p : Nat} (hp : (unA A 6).testBit p = true) {s : Nat} (hs : s < 6) : (A s).testBit p = decide (dgA A 6 p = s) := by
  rw [unA_bit] at hp
  obtain ⟨t, t1, t2⟩ := anyB_t.mp hp
  have hd := dg_is hV hA t1 t2
  cases h : (A s).testBit p with
  | true => rw [dg_is hV hA hs h]; simp
  | false =>
    rw [hd]
    by_cases e : t = s
    · subst e; rw [t2] at h; cases h
    · rw [decide_eq_false e]
theorem sim_7 : Sm7 Rel := by
  intro X Y h
  obtain ⟨X1, d1, d2⟩ := drop_ok (Rel_t (t := 0) h)
  generalize hZ : forg (up2 Y 0 0 0) = Z at *
  obtain ⟨q, pa, hT, hP, hB, hS, hO, hW, h16⟩ := id d2
  have hHd : heldS (Z 1) < 512 := heldS_lt _
  have h5 := hT.2.2.2.2.1
  have hVP : ∀ s P A, VX Z s P A → P &&& A = 0 := fun s P A h => VX_P h
  obtain ⟨r, X', c1, c2, c3, c4, c5⟩ := cls_plan hT hP.2
  have eE : fE_plan X = some (r, X') := by unfold fE_plan; rw [d1, xbd_eq, c1, xbd_eq]
  -- the reference
  obtain ⟨v1, M1, p1, p2, p3, p4⟩ := pre_M (Z := Z) rfl
  obtain ⟨v2, M2, q1, q2, q3⟩ := may_M (M1 := M1) (Y := Z) hHd (fun j h1 h2 => p2 j (by omega) (by omega)) p4
  have f2 : ∀ j, j ≠ 9 → j ≠ 10 → j ≠ 12 → M2 j = Z j := fun j h1 h2 h3 => (q2 j h2).trans (p2 j h1 h3)
  have eM : fM_plan Y = fM_plan_138 (nI (heldS (Z 1))) M2 := by
    unfold fM_plan fM_plan_74
    rw [xlt_eq, xM_forget, xbd_eq, hZ, xM_held, xbd_eq, p1, xbd_eq, q1, xbd_eq]
  -- least, with any bounds
  have least : ∀ M : Mem, M 6 = Z 6 → (∀ s set, s < 6 → set < 512 → M 10 (512 * s + set) = bz (mayB Z s set (heldS (Z 1)))) → ∃ (M' : Mem) (Nf : Nat → Nat → Nat), fM_least (nI (heldS (Z 1))) M = some (nI (Nf 0 0), M') ∧ (∀ j, j ≠ 8 → j ≠ 11 → M' j = M j) ∧ LTok Z (M 9) (heldS (Z 1)) Nf := fun M a b => xM_least hHd a b
  have low : ∀ (bd : Nat → Int32) (Nf : Nat → Nat → Nat) (A : Nat → Nat), LTok Z bd (heldS (Z 1)) Nf → OkA (VX Z) A 6 → unA A 6 = heldS (Z 1) → (∀ s, s < 6 → kepB bd s (A s) = true) → Nf 0 0 ≤ usA A 6 := fun bd Nf A hl hA hU hk => lt_low hl ((VW_all h5 A 6).1.mp hA) hU hk (fun s hs => unA_lt (fun _ _ _ h => VX_lt h) (fun t ht => hA t (by omega))) (fun s hs => unA_sub (fun _ _ _ h => VX_H h) (fun t ht => hA t (by omega)))
  have high : ∀ (bd : Nat → Int32) (Nf : Nat → Nat → Nat), LTok Z bd (heldS (Z 1)) Nf → Nf 0 0 < 99 → ∃ A, OkA (VX Z) A 6 ∧ unA A 6 = heldS (Z 1) ∧ (∀ s, s < 6 → kepB bd s (A s) = true) ∧ usA A 6 = Nf 0 0 := fun bd Nf hl h99 => by
    obtain ⟨A, a1, a2⟩ := lt_plan hl h99
    exact ⟨A, (VW_all h5 A 6).1.mpr a1, a2⟩
  have le99 : ∀ (bd : Nat → Int32) (Nf : Nat → Nat → Nat), LTok Z bd (heldS (Z 1)) Nf → Nf 0 0 ≤ 99 := fun bd Nf hl => (hl.2 0 (by decide) 0 (by decide)).1
  obtain ⟨M3, N0, l1, l2, l3⟩ := least M2 (f2 6 (by decide) (by decide) (by decide)) q3
  have bd0 : ∀ p, p < 9 → M2 9 p = -1 := fun p hp => by rw [q2 9 (by decide)]; exact p3 p hp
  have kep0 : ∀ s x, kepB (M2 9) s x = true := fun s x => allB_t.mpr (fun p hp => by rw [bd0 p hp]; rfl)
  have f3 : ∀ j, j ≠ 8 → j ≠ 9 → j ≠ 10 → j ≠ 11 → j ≠ 12 → M3 j = Z j := fun j h1 h2 h3 h4 h5 => (l2 j h1 h4).trans (f2 j h2 h3 h5)
  rcases c5 with ⟨rfl, e1, e11, hnone⟩ | ⟨A, a1, a2, a3, rfl, a5, a6, a7⟩
  · -- no plan
    have hN : N0 0 0 = 99 := by
      have := le99 _ _ l3
      rcases Nat.lt_or_ge (N0 0 0) 99 with hl | hl
      · obtain ⟨A, b1, b2, -, -⟩ := high _ _ l3 hl
        exact absurd b2 (hnone A b1)
      · omega
    refine ⟨-1, X', M3, eE, ?_, q, pa, qT_c (fun j h1 h2 => c2 j (by omega) (by omega) (by omega) (by omega) (by omega) (by omega) (by omega)) (fun j h1 h2 => f3 j (by omega) (by omega) (by omega) (by omega) (by omega)) hT, ⟨?_, ?_⟩, qB_c (fun j h1 h2 => c2 j (by omega) (by omega) (by omega) (by omega) (by omega) (by omega) (by omega)) (fun j h1 h2 => f3 j (by omega) (by omega) (by omega) (by omega) (by omega)) hB, qS_c (fun j h1 h2 => c2 j (by omega) (by omega) (by omega) (by omega) (by omega) (by omega) (by omega)) (f3 17 (by decide) (by decide) (by decide) (by decide) (by decide)) (f3 18 (by decide) (by decide) (by decide) (by decide) (by decide)) hS, qO_c (c2 45 (by decide) (by decide) (by decide) (by decide) (by decide) (by decide) (by decide)) (c2 46 (by decide) (by decide) (by decide) (by decide) (by decide) (by decide) (by decide)) (f3 19 (by decide) (by decide) (by decide) (by decide) (by decide)) (f3 20 (by decide) (by decide) (by decide) (by decide) (by decide)) hO, qW_c (fun j h1 h2 => c2 j (by omega) (by omega) (by omega) (by omega) (by omega) (by omega) (by omega)) (f3 21 (by decide) (by decide) (by decide) (by decide) (by decide)) hW, by rw [f3 0 (by decide) (by decide) (by decide) (by decide) (by decide), f3 21 (by decide) (by decide) (by decide) (by decide) (by decide)]; exact h16⟩
    · rw [eM]; unfold fM_plan_138
      rw [l1, xbd_eq, hN, if_neg (show ¬ nI 99 < 99 by decide)]
    · rw [e1, e11, f3 0 (by decide) (by decide) (by decide) (by decide) (by decide), f3 7 (by decide) (by decide) (by decide) (by decide) (by decide)]; exact hP.1
    · rw [c2 13 (by decide) (by decide) (by decide) (by decide) (by decide) (by decide) (by decide)]; exact ⟨hP.2.1, c3, c4⟩
  · -- a plan
    have hu6 : usA A 6 ≤ 6 := cnt_le _ 6
    have hmin : ∀ A', OkA (VX Z) A' 6 → unA A' 6 = heldS (Z 1) → usA A 6 ≤ usA A' 6 := fun A' b1 b2 => by
      have h1 := a3 A' b1 b2
      have h2 := (csA_lt hVP b1).2
      unfold csA at h1
      omega
    have hbest : ∀ (bd : Nat → Int32) (Nf : Nat → Nat → Nat), LTok Z bd (heldS (Z 1)) Nf → (∀ s, s < 6 → kepB bd s (A s) = true) → Nf 0 0 = usA A 6 := fun bd Nf hl hk => by
      have h1 := low bd Nf A hl a1 a2 hk
      obtain ⟨A', b1, b2, -, b4⟩ := high bd Nf hl (by omega)
      have := hmin A' b1 b2
      omega
    have hN : N0 0 0 = usA A 6 := hbest _ _ l3 (fun s _ => kep0 s _)
    have hdl := dg_lt hVP a1
    have held_u : ∀ p, p < 9 → ((unA A 6).testBit p = heldP (Z 1) p) := fun p hp => by rw [a2, heldS_bit _ hp]
    -- bounds up to p
    have key : ∀ (p s : Nat) (L : Mem), p < 9 → heldP (Z 1) p = true → s ≤ dgA A 6 p → L 6 = Z 6 → (∀ s set, s < 6 → set < 512 → L 10 (512 * s + set) = bz (mayB Z s set (heldS (Z 1)))) → (∀ p', p' < 9 → L 9 p' = if p' < p ∧ heldP (Z 1) p' = true then nI (dgA A 6 p') else if p' = p then nI s else -1) → ∃ (L' : Mem) (u : Nat), fM_least (nI (heldS (Z 1))) L = some (nI u, L') ∧ (∀ j, j ≠ 8 → j ≠ 11 → L' j = L j) ∧ u ≤ 99 ∧ (u = usA A 6 ↔ s = dgA A 6 p) := by
      intro p s L hp hh hs m6 m10 m9
      obtain ⟨L', Nf, k1, k2, k3⟩ := least L m6 m10
      refine ⟨L', Nf 0 0, k1, k2, le99 _ _ k3, ?_⟩
      have hdp := hdl p
      constructor
      · intro hu
        refine Classical.byContradiction (fun hne => ?_)
        have hslt : s < dgA A 6 p := by omega
        obtain ⟨A', b1, b2, b3, b4⟩ := high _ _ k3 (by omega)
        have hb' : ∀ p', p' < 9 → ((unA A' 6).testBit p' = heldP (Z 1) p') := fun p' hp' => by rw [b2, heldS_bit _ hp']
        have dgk : ∀ p' t, p' < 9 → t < 6 → L 9 p' = nI t → dgA A' 6 p' = t := by
          intro p' t hp' ht h9
          have h1 := allB_t.mp (b3 t ht) p' hp'
          rw [h9, decide_eq_false (nIm1 (show t < 2 ^ 31 by omega)), decide_eq_true rfl, Bool.false_or] at h1
          have h2 : (A' t).testBit p' = true := by simpa using h1
          exact dg_is hVP b1 ht h2
        have hlex : hv (dgA A' 6) 9 < hv (dgA A 6) 9 := by
          refine hv_lex (p := p) (fun p' hp' => ?_) ?_ (dg_lt hVP b1) 9 hp
          · cases hh' : heldP (Z 1) p' with
            | true => exact dgk p' _ (by omega) (hdl p') (by rw [m9 p' (by omega), if_pos ⟨hp', hh'⟩])
            | false => rw [dg_zero A' p' 6 (by rw [hb' p' (by omega), hh']), dg_zero A p' 6 (by rw [held_u p' (by omega), hh'])]
          · rw [dgk p s hp (by omega) (by rw [m9 p hp, if_neg (by omega), if_pos rfl])]; exact hslt
        rw [← coA_hv, ← coA_hv] at hlex
        have h1 := a3 A' b1 b2
        unfold csA at h1
        omega
      · intro hse
        refine hbest _ _ k3 (fun t ht => allB_t.mpr (fun p' hp' => ?_))
        rw [m9 p' hp']
        by_cases c : p' < p ∧ heldP (Z 1) p' = true
        · rw [if_pos c, at_bit hVP a1 (by rw [held_u p' hp']; exact c.2) ht]
          have := hdl p'
          rw [show decide (nI (dgA A 6 p') = nI t) = decide (dgA A 6 p' = t) by
            by_cases e : dgA A 6 p' = t
            · rw [e]; simp
            · rw [decide_eq_false e, decide_eq_false (fun e9 => e ((nI_eq (by omega) (by omega)).mp e9))]]
          simp
        · rw [if_neg c]
          by_cases e : p' = p
          · subst e
            rw [if_pos rfl, at_bit hVP a1 (by rw [held_u p' hp']; exact hh) ht, ← hse]
            rw [show decide (nI s = nI t) = decide (s = t) by
              by_cases e : s = t
              · rw [e]; simp
              · rw [decide_eq_false e, decide_eq_false (fun e9 => e ((nI_eq (by omega) (by omega)).mp e9))]]
            simp
          · rw [if_neg e]; rfl
    -- the reference gives the papers their sessions
    have loop := xlp_inv (b := bM_plan_159 (nI (heldS (Z 1))) (nI (usA A 6))) (fun p (st : Int32 × Mem) => ∃ L : Mem, st = (nI p, L) ∧ (∀ j, j ≠ 7 → j ≠ 8 → j ≠ 9 → j ≠ 11 → L j = up2 M3 0 7 1 j) ∧ (∀ p', p' < 9 → L 9 p' = if p' < p ∧ heldP (Z 1) p' = true then nI (dgA A 6 p') else -1) ∧ (∀ p', p' < p → L 7 p' = if heldP (Z 1) p' = true then nI (dgA A 6 p') else -1)) (fun t => ∃ (v : Int32) (L : Mem), t = (v, L) ∧ (∀ j, j ≠ 7 → j ≠ 8 → j ≠ 9 → j ≠ 11 → L j = up2 M3 0 7 1 j) ∧ (∀ p', p' < 9 → L 7 p' = if heldP (Z 1) p' = true then nI (dgA A 6 p') else -1)) 9 ?_ (0, up2 M3 0 7 1) ⟨_, rfl, fun _ _ _ _ _ => rfl, fun p' hp' => by rw [if_neg (by omega), up2_ne (by decide), l2 9 (by decide) (by decide)]; exact bd0 p' hp', fun p' hp' => absurd hp' (Nat.not_lt_zero p')⟩
    · obtain ⟨t, t1, v, L, rfl, g1, g2⟩ := loop
      have fL : ∀ j, j ≠ 0 → j ≠ 7 → j ≠ 8 → j ≠ 9 → j ≠ 10 → j ≠ 11 → j ≠ 12 → L j = Z j := fun j h0 h7 h8 h9 h10 h11 h12 => by
        rw [g1 j h7 h8 h9 h11, up2_ne h0]; exact f3 j h8 h9 h10 h11 h12
      have fL0 : L 0 7 = 1 := by rw [g1 0 (by decide) (by decide) (by decide) (by decide)]; rfl
      refine ⟨nI (usA A 6), X', L, eE, ?_, q, pa, qT_c (fun j h1 h2 => c2 j (by omega) (by omega) (by omega) (by omega) (by omega) (by omega) (by omega)) (fun j h1 h2 => fL j (by omega) (by omega) (by omega) (by omega) (by omega) (by omega) (by omega)) hT, ⟨?_, ?_⟩, qB_c (fun j h1 h2 => c2 j (by omega) (by omega) (by omega) (by omega) (by omega) (by omega) (by omega)) (fun j h1 h2 => fL j (by omega) (by omega) (by omega) (by omega) (by omega) (by omega) (by omega)) hB, qS_c (fun j h1 h2 => c2 j (by omega) (by omega) (by omega) (by omega) (by omega) (by omega) (by omega)) (fL 17 (by decide) (by decide) (by decide) (by decide) (by decide) (by decide) (by decide)) (fL 18 (by decide) (by decide) (by decide) (by decide) (by decide) (by decide) (by decide)) hS, qO_c (c2 45 (by decide) (by decide) (by decide) (by decide) (by decide) (by decide) (by decide)) (c2 46 (by decide) (by decide) (by decide) (by decide) (by decide) (by decide) (by decide)) (fL 19 (by decide) (by decide) (by decide) (by decide) (by decide) (by decide) (by decide)) (fL 20 (by decide) (by decide) (by decide) (by decide) (by decide) (by decide) (by decide)) hO, qW_c (fun j h1 h2 => c2 j (by omega) (by omega) (by omega) (by omega) (by omega) (by omega) (by omega)) (fL 21 (by decide) (by decide) (by decide) (by decide) (by decide) (by decide) (by decide)) hW, fun e => ?_⟩
      · rw [eM]; unfold fM_plan_138
        rw [l1, xbd_eq, hN, if_pos (show nI (usA A 6) < 99 from nI_lt (b := 99) (by omega) (by decide)), xlt_eq]
        dsimp only
        rw [t1, xbd_eq]; rfl
      · rw [fL0]
        refine ⟨Or.inr rfl, a5, ?_, fun p hp => ?_, fun _ p hp => ?_⟩
        · rw [a6]
          congr 1
          unfold usd usA
          refine cnt_ext (fun s hs => ?_)
          have hb1 : bq 1 = true := by decide
          cases hz : decide (A s ≠ 0) with
          | true =>
            rw [decide_eq_true_eq] at hz
            symm
            have : ∃ p, (A s).testBit p = true := by
              refine Classical.byContradiction (fun hn => hz ?_)
              apply Nat.eq_of_testBit_eq
              intro i
              rw [Nat.zero_testBit, Bool.eq_false_iff]
              exact fun e => hn ⟨i, e⟩
            obtain ⟨p, hpb⟩ := this
            have hp := bit9 (VX_lt (a1 s hs)) hpb
            have hpu : (unA A 6).testBit p = true := by rw [unA_bit]; exact anyB_t.mpr ⟨s, hs, hpb⟩
            refine anyB_t.mpr ⟨p, hp, ?_⟩
            rw [hb1, g2 p hp, if_pos (by rw [← held_u p hp]; exact hpu), dg_is hVP a1 hs hpb]; simp
          | false =>
            rw [decide_eq_false_iff_not] at hz
            have hz' : A s = 0 := Classical.byContradiction (fun hn => hz hn)
            symm
            rw [Bool.eq_false_iff]
            intro e
            obtain ⟨p, hp, hpe⟩ := anyB_t.mp e
            rw [hb1, Bool.true_and, decide_eq_true_eq, g2 p hp] at hpe
            by_cases hh : heldP (Z 1) p = true
            · rw [if_pos hh] at hpe
              have := hdl p
              have hd : dgA A 6 p = s := (nI_eq (by omega) (by omega)).mp hpe
              have hb := at_bit hVP a1 (p := p) (by rw [held_u p hp]; exact hh) hs
              rw [hz', Nat.zero_testBit, hd] at hb
              simp at hb
            · rw [if_neg hh] at hpe
              exact nIm1 (show s < 2 ^ 31 by omega) hpe.symm
        · rw [if_neg (show ¬ (1 : Int32) = 0 by decide), a7 p hp, g2 p hp]
        · rw [g2 p hp]
          by_cases hh : heldP (Z 1) p = true
          · rw [if_pos hh]; exact Or.inr ⟨_, hdl p, rfl⟩
          · rw [if_neg hh]; exact Or.inl rfl
      · rw [c2 13 (by decide) (by decide) (by decide) (by decide) (by decide) (by decide) (by decide)]; exact ⟨hP.2.1, c3, c4⟩
      · rw [fL0] at e; exact absurd e (by decide)
    · rintro p st hp ⟨L, rfl, g1, g2, g3⟩
      dsimp only [bM_plan_159, gM_plan_159]
      by_cases e : p = 9
      · subst e
        exact Or.inl ⟨_, if_pos (Int32.le_refl (nI 9)), _, L, rfl, g1, g3⟩
      · have hp' : p < 9 := by omega
        refine Or.inr ⟨hp', ?_⟩
        rw [if_neg (show ¬ (9 : Int32) ≤ nI p from nI_ltc hp' (by decide)), xgd_pos (vi_ hp' (by decide)), xlt_eq, cl_ (show p < 100000 by omega)]
        have hlt31 : heldS (Z 1) < 2 ^ 31 := by omega
        have hbit := heldS_bit (Z 1) hp'
        have inner : ∃ (v : Int32) (K : Mem), xlp (bM_plan_175 (nI (heldS (Z 1))) (nI (usA A 6)) (nI p)) (0, up2 L 7 p (-1)) = some (v, K) ∧ (∀ j, j ≠ 7 → j ≠ 8 → j ≠ 9 → j ≠ 11 → K j = L j) ∧ (∀ p', p' < 9 → K 9 p' = if p' < p + 1 ∧ heldP (Z 1) p' = true then nI (dgA A 6 p') else -1) ∧ (∀ p', p' ≠ p → K 7 p' = L 7 p') ∧ K 7 p = if heldP (Z 1) p = true then nI (dgA A 6 p) else -1 := by
          cases hh : heldP (Z 1) p with
          | false =>
            refine ⟨0, up2 L 7 p (-1), xlp_end ?_, fun j h7 _ _ _ => up2_ne h7, fun p' hp9 => ?_, fun p' hne => by rw [up2_same, pk_un hne], by rw [up2_at]; rfl⟩
            · dsimp only [bM_plan_175, gM_plan_175]
              rw [if_neg (by decide), xgd_pos (vi_ hp' (by decide)), cl_ (show p < 100000 by omega), if_pos (up2_at L 7 p (-1)), xM_has hlt31 (by omega), xbd_eq, hbit, hh, if_pos (by decide)]
            · rw [up2_ne (by decide), g2 p' hp9]
              by_cases c : p' < p ∧ heldP (Z 1) p' = true
              · rw [if_pos c, if_pos ⟨by omega, c.2⟩]
              · have hc' : ¬ (p' < p + 1 ∧ heldP (Z 1) p' = true) := by
                  rintro ⟨x1, x2⟩
                  by_cases e2 : p' = p
                  · subst e2; rw [hh] at x2; cases x2
                  · exact c ⟨by omega, x2⟩
                rw [if_neg c, if_neg hc']
          | true =>
            have hdp := hdl p
            have hi := xlp_inv (b := bM_plan_175 (nI (heldS (Z 1))) (nI (usA A 6)) (nI p)) (fun s (st : Int32 × Mem) => ∃ K : Mem, (∀ j, j ≠ 7 → j ≠ 8 → j ≠ 9 → j ≠ 11 → K j = L j) ∧ (∀ p', p' ≠ p → K 7 p' = L 7 p') ∧ (∀ p', p' < 9 → p' ≠ p → K 9 p' = L 9 p') ∧ ((s ≤ dgA A 6 p ∧ st = (nI s, K) ∧ K 7 p = -1) ∨ (s = dgA A 6 p + 1 ∧ st = (nI s, K) ∧ K 7 p = nI (dgA A 6 p) ∧ K 9 p = nI (dgA A 6 p)))) (fun t => ∃ (v : Int32) (K : Mem), t = (v, K) ∧ (∀ j, j ≠ 7 → j ≠ 8 → j ≠ 9 → j ≠ 11 → K j = L j) ∧ (∀ p', p' ≠ p → K 7 p' = L 7 p') ∧ (∀ p', p' < 9 → p' ≠ p → K 9 p' = L 9 p') ∧ K 7 p = nI (dgA A 6 p) ∧ K 9 p = nI (dgA A 6 p)) 6 ?_ (0, up2 L 7 p (-1)) ⟨up2 L 7 p (-1), fun j h7 _ _ _ => up2_ne h7, fun p' hne => by rw [up2_same, pk_un hne], fun p' _ _ => by rw [up2_ne (by decide)], Or.inl ⟨Nat.zero_le _, rfl, up2_at _ _ _ _⟩⟩
            · obtain ⟨t, t1, v, K, rfl, k1, k2, k3, k4, k5⟩ := hi
              refine ⟨v, K, t1, k1, fun p' hp9 => ?_, k2, by rw [if_pos rfl]; exact k4⟩
              by_cases e2 : p' = p
              · subst e2; rw [if_pos ⟨by omega, hh⟩]; exact k5
              · rw [k3 p' hp9 e2, g2 p' hp9]
                by_cases c : p' < p ∧ heldP (Z 1) p' = true
                · rw [if_pos c, if_pos ⟨by omega, c.2⟩]
                · rw [if_neg c, if_neg (fun hc => c ⟨by omega, hc.2⟩)]
            · rintro s st hs6 ⟨K, k1, k2, k3, hcase⟩
              rcases hcase with ⟨hs, rfl, k4⟩ | ⟨hs, rfl, k4, k5⟩
              · refine Or.inr ⟨by omega, ?_⟩
                dsimp only [bM_plan_175, gM_plan_175]
                have fK : ∀ j, j ≠ 7 → j ≠ 8 → j ≠ 9 → j ≠ 11 → up2 K 9 p (nI s) j = up2 M3 0 7 1 j := fun j h7 h8 h9 h11 => by rw [up2_ne h9, k1 j h7 h8 h9 h11]; exact g1 j h7 h8 h9 h11
                obtain ⟨K', u, w1, w2, w3, w4⟩ := key p s (up2 K 9 p (nI s)) hp' hh hs (by rw [fK 6 (by decide) (by decide) (by decide) (by decide), up2_ne (by decide)]; exact f3 6 (by decide) (by decide) (by decide) (by decide) (by decide)) (fun s' set hs' hset => by rw [fK 10 (by decide) (by decide) (by decide) (by decide), up2_ne (by decide), l2 10 (by decide) (by decide)]; exact q3 s' set hs' hset) (fun p' hp9 => by
                  rw [up2_same]
                  by_cases e2 : p' = p
                  · subst e2; rw [pk_us, if_neg (by omega), if_pos rfl]
                  · rw [pk_un e2, k3 p' hp9 e2, g2 p' hp9]
                    by_cases c : p' < p ∧ heldP (Z 1) p' = true
                    · rw [if_pos c, if_pos c]
                    · rw [if_neg c, if_neg c, if_neg e2])
                rw [if_neg (show ¬ (6 : Int32) ≤ nI s from nI_ltc (n := 6) (by omega) (by decide)), xgd_pos (vi_ hp' (by decide)), cl_ (show p < 100000 by omega), if_pos k4, xM_has hlt31 (by omega), xbd_eq, hbit, hh, if_neg (by decide), xgd_pos (vi_ hp' (by decide)), xlt_eq, w1, xbd_eq]
                unfold fM_plan_228
                dsimp only
                rw [xgd_pos (vi_ hp' (by decide)), xgd_pos (vi_ hp' (by decide)), cl_ (show p < 100000 by omega), xlt_eq, xlt_eq, xlt_eq, xlt_eq, nI_1]
                have fK' : ∀ j, j ≠ 7 → j ≠ 8 → j ≠ 9 → j ≠ 11 → ∀ z, up2 K' 7 p z j = L j := fun j h7 h8 h9 h11 z => by rw [up2_ne h7, w2 j h8 h11, up2_ne h9]; exact k1 j h7 h8 h9 h11
                have f7 : ∀ p', p' ≠ p → ∀ z, up2 K' 7 p z 7 p' = L 7 p' := fun p' hne z => by rw [up2_same, pk_un hne, w2 7 (by decide) (by decide), up2_ne (by decide)]; exact k2 p' hne
                have f9 : ∀ p', p' < 9 → p' ≠ p → ∀ z, up2 K' 7 p z 9 p' = L 9 p' := fun p' hp9 hne z => by rw [up2_ne (by decide), w2 9 (by decide) (by decide), up2_same, pk_un hne]; exact k3 p' hp9 hne
                by_cases hu : u = usA A 6
                · rw [if_pos (by rw [hu])]
                  have hse := w4.mp hu
                  refine ⟨_, rfl, up2 K' 7 p (nI s), fun j h7 h8 h9 h11 => fK' j h7 h8 h9 h11 _, fun p' hne => f7 p' hne _, fun p' hp9 hne => f9 p' hp9 hne _, Or.inr ⟨by omega, rfl, ?_, ?_⟩⟩
                  · rw [up2_at, hse]
                  · rw [up2_ne (by decide), w2 9 (by decide) (by decide), up2_at, hse]
                · rw [if_neg (fun e9 => hu ((nI_eq (by omega) (by omega)).mp e9))]
                  have hne : s ≠ dgA A 6 p := fun e9 => hu (w4.mpr e9)
                  exact ⟨_, rfl, up2 K' 7 p (-1), fun j h7 h8 h9 h11 => fK' j h7 h8 h9 h11 _, fun p' hne' => f7 p' hne' _, fun p' hp9 hne' => f9 p' hp9 hne' _, Or.inl ⟨by omega, rfl, up2_at _ _ _ _⟩⟩
              · refine Or.inl ⟨(nI s, K), ?_, nI s, K, rfl, k1, k2, k3, k4, k5⟩
                dsimp only [bM_plan_175, gM_plan_175]
                by_cases c : (6 : Int32) ≤ nI s
                · rw [if_pos c]
                · rw [if_neg c, xgd_pos (vi_ hp' (by decide)), cl_ (show p < 100000 by omega), if_neg (by rw [k4]; exact nIm1 (by omega))]
        obtain ⟨v, K, i1, i2, i3, i4, i5⟩ := inner
        rw [i1, xbd_eq]
        unfold fM_plan_235
        rw [xlt_eq, nI_1]
        refine ⟨_, rfl, K, rfl, fun j h7 h8 h9 h11 => (i2 j h7 h8 h9 h11).trans (g1 j h7 h8 h9 h11), i3, fun p' h' => ?_⟩
        by_cases e2 : p' = p
        · subst e2; exact i5
        · rw [i4 p' e2]; exact g3 p' (by omega)
