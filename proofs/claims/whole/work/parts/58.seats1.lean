/-! ===== leave, who, block ===== -/
theorem rF_vac {y17 y18 : Nat → Int32} {q pa : Nat → Nat → Nat} (h : rF y17 y18 q pa) {s k : Nat} (hk : k < 144) : rF (upd y17 (144 * s + k) 0) y18 (un2 q s k 0) pa := by
  intro s' k' hs' hk'
  by_cases e : s' = s ∧ k' = k
  · obtain ⟨rfl, rfl⟩ := e
    rw [pk_us, un2_s, un_s]
    exact ⟨rfl, fun h => absurd rfl h⟩
  · rw [pk_un (by omega)]
    by_cases e1 : s' = s
    · subst e1
      rw [un2_s, un_n (fun e2 => e ⟨rfl, e2⟩)]; exact h s' k' hs' hk'
    · rw [un2_n e1]; exact h s' k' hs' hk'
theorem un2_z {q : Nat → Nat → Nat} {s k : Nat} (h : ∀ s k, s < 6 → k < 144 → q s k = 0) : ∀ s' k', s' < 6 → k' < 144 → un2 q s k 0 s' k' = 0 := by
  intro s' k' hs hk
  by_cases e1 : s' = s
  · subst e1
    by_cases e2 : k' = k
    · subst e2; rw [un2_s, un_s]
    · rw [un2_s, un_n e2]; exact h s' k' hs hk
  · rw [un2_n e1]; exact h s' k' hs hk
theorem sim_13 : Sm13 Rel := by
  intro X Y h a1 a2
  rcases oo_ix a1 (n := 40) (by decide) with h1 | ⟨c, hc, rfl⟩
  · refine Or.inr ⟨0, up2 Y 0 0 1, ?_, ?_, up2_at _ _ _ _, Rel_t h⟩
    · unfold kE_leave kE_leave_18 kE_leave_19; rw [eE_Candidate0 h1, xbd_eq, if_pos rfl]; exact if_pos rfl
    · unfold fM_leave fM_leave_19 fM_leave_20; rw [eM_Candidate0 h1, xbd_eq, if_pos rfl, g0, xbd_eq, if_pos rfl]
  rcases oo_ix a2 (n := 6) (by decide) with h1 | ⟨s, hs, rfl⟩
  · refine Or.inr ⟨0, up2 Y 0 0 1, ?_, ?_, up2_at _ _ _ _, Rel_t h⟩
    · unfold kE_leave kE_leave_18 kE_leave_19; rw [eE_Candidate hc, xbd_eq, if_neg n10, eE_Session0 h1, xbd_eq, if_pos rfl]; exact if_pos rfl
    · unfold fM_leave fM_leave_19 fM_leave_20; rw [eM_Candidate hc, xbd_eq, if_neg n10, eM_Session0 h1, xbd_eq, if_pos rfl, g0, xbd_eq, if_pos rfl]
  obtain ⟨q, pa, hS, h16⟩ := rel_S h
  have hpo := rS1_po (hS.1 s hs) hc
  rw [seg_at _ hs] at hpo
  have hpl := xM_place (Y := up2 Y 0 0 0) hS.2 (fun s k hs hk => ((hS.1 s hs).1 k hk).1) hc hs
  have eE : ∀ z, fE_leave (nI c) (nI s) X = z ↔ (xbd (fR_vacate (nI s) (o2 (fN (fun k => decide (q s k = c + 1)) 144)) X) (fun r5 => xbd (fE_seatNumber (o2 (fN (fun k => decide (q s k = c + 1)) 144))) (fun r6 => some (r6, r5)))) = z := fun z => by
    unfold fE_leave fE_leave_19
    rw [eE_Candidate hc, xbd_eq, if_neg n10, eE_Session hs, xbd_eq, if_neg n10, me1, xbd_eq, xgd_pos (vi_ hs (by decide)), xgd_pos (vi_ hc (by decide)), cl_ (show s < 100000 by omega), cl_ (show c < 100000 by omega), show (37 : Nat) + 1 + s = 38 + s by omega, hpo, xlt_eq]
  have eM : fM_leave (nI c) (nI s) Y = (if o2 (fN (fun k => decide (q s k = c + 1)) 144) = (-1) then (fM_leave_54 (o2 (fN (fun k => decide (q s k = c + 1)) 144)) (up2 Y 0 0 0)) else (xgd (vp_in ((144 * nI s) + (o2 (fN (fun k => decide (q s k = c + 1)) 144))) 864) (xlt (up2 (up2 Y 0 0 0) 17 (((144 * nI s) + (o2 (fN (fun k => decide (q s k = c + 1)) 144))).toNatClampNeg) 0) (fun M5 => fM_leave_54 (o2 (fN (fun k => decide (q s k = c + 1)) 144)) M5)))) := by
    unfold fM_leave fM_leave_20
    rw [eM_Candidate hc, xbd_eq, if_neg n10, eM_Session hs, xbd_eq, if_neg n10, g11, xbd_eq, if_neg n10, hpl, xbd_eq]
  cases ho : fN (fun k => decide (q s k = c + 1)) 144 with
  | none =>
    refine Or.inl ⟨-1, X, up2 Y 0 0 0, ?_, ?_, up2_at _ _ _ _, Rel_t h⟩
    · rw [eE, ho]
      show xbd (fR_vacate (nI s) (-1) X) _ = _
      rw [xR_vac0, xbd_eq]; rfl
    · rw [eM, ho]; rfl
  | some k =>
    obtain ⟨hk, hqk, -⟩ := fN_some ho
    obtain ⟨t, ht⟩ := Option.isSome_iff_exists.mp (told_some k hk)
    obtain ⟨X', d1, d2, d3, -, -⟩ := xR_vacate hS.1 hs hk
    refine Or.inl ⟨t, X', up2 (up2 Y 0 0 0) 17 (144 * s + k) 0, ?_, ?_, rfl, ?_⟩
    · rw [eE, ho]
      show xbd (fR_vacate (nI s) (nI k) X) _ = _
      rw [d1, xbd_eq]
      show xbd (fE_seatNumber (nI k)) _ = _
      rw [told_all k hk, ht, xbd_eq]
    · rw [eM, ho]
      show (if nI k = -1 then _ else _) = _
      rw [if_neg (nIm1 (by omega))]
      show xgd (vp_in (144 * nI s + nI k) 864) _ = _
      rw [ix144, xgd_pos (vi_ (by omega) (by decide)), xlt_eq]
      show fM_leave_54 (nI k) (up2 (up2 Y 0 0 0) 17 (144 * nI s + nI k).toNatClampNeg 0) = _
      rw [ix144, cl_ (by omega)]
      unfold fM_leave_54
      rw [ht, xbd_eq]
    · refine Rel_S h d3 (fun j h0 h1 h2 => by rw [up2_ne h1, up2_ne h0]) rfl ⟨d2, ?_⟩ (fun e => un2_z (h16 e).1)
      rw [up2_same, up2_ne (by decide), up2_ne (by decide), up2_ne (by decide)]
      exact rF_vac hS.2 hk
/-! where there is a seat -/
theorem seat_c {X Y : Mem} (h9 : r9 (X 19) (X 20) (X 21) (Y 13) (Y 14) (Y 15)) {r : Nat} (hr : r < 4) (a b : Int32) :
    (∃ n m row col, Y 13 r = nI n ∧ Y 14 r = nI m ∧ n ≤ 6 ∧ m ≤ 6 ∧ row < n ∧ col < m ∧ a = nI row ∧ b = nI col ∧ fR_hasPlace (nI r) a b X = some 1 ∧ fM_isSeat (nI r) a b Y = some 1) ∨ (fR_hasPlace (nI r) a b X = some 0 ∧ fM_isSeat (nI r) a b Y = some 0 ∧ ∀ n m row col, Y 13 r = nI n → Y 14 r = nI m → a = nI row → b = nI col → row < n → col < m → n ≤ 6 → m ≤ 6 → False) := by
  obtain ⟨e1, e2, e3, ⟨n, hn, en⟩, ⟨m, hm, em⟩, -⟩ := h9 r hr
  have z0 : fR_hasPlace_31 0 X = some 0 := xgd_pos (Or.inl rfl) _
  have z1 : fR_hasPlace_31 1 X = some 1 := xgd_pos (Or.inr rfl) _
  have w0 : fM_isSeat_40 0 Y = some 0 := xgd_pos (Or.inl rfl) _
  have w1 : fM_isSeat_40 1 Y = some 1 := xgd_pos (Or.inr rfl) _
  unfold fR_hasPlace fM_isSeat fR_hasPlace_30 fM_isSeat_39
  rw [xgd_pos (vi_ hr (by decide)), cl_ (by omega), e1, e2, en, em, z0, z1, w0, w1, eM_Room hr, xbd_eq, if_neg n10, xgd_pos (vi_ hr (by decide)), xgd_pos (vi_ hr (by decide)), xgd_pos (vi_ hr (by decide))]
  rcases oo_ix a (n := n) (by omega) with h1 | ⟨row, hrow, rfl⟩
  · refine Or.inr ⟨?_, ?_, ?_⟩
    · rw [oE_out h1, xbd_eq, if_pos rfl]
    · rcases h1 with h1 | h1
      · rw [if_pos h1]
      · by_cases h2 : a < 0
        · rw [if_pos h2]
        · rw [if_neg h2, if_pos h1]
    · intro n' m' row col f1 f2 f3 f4 f5 f6 f7 f8
      have : n = n' := (nI_eq (by omega) (by omega)).mp f1
      subst this; subst f3
      rcases h1 with h1 | h1
      · exact nI_pos (by omega) h1
      · exact nI_ge f5 (by omega) h1
  · rw [oE_in hrow (by omega), xbd_eq, if_neg n10, if_neg (nI_pos (by omega)), if_neg (nI_ge hrow (by omega))]
    rcases oo_ix b (n := m) (by omega) with h1 | ⟨col, hcol, rfl⟩
    · refine Or.inr ⟨?_, ?_, ?_⟩
      · rw [oE_out h1, xbd_eq, if_pos rfl]
      · rcases h1 with h1 | h1
        · rw [if_pos h1]
        · by_cases h2 : b < 0
          · rw [if_pos h2]
          · rw [if_neg h2, if_pos h1]
      · intro n' m' row col f1 f2 f3 f4 f5 f6 f7 f8
        have : m = m' := (nI_eq (by omega) (by omega)).mp f2
        subst this; subst f4
        rcases h1 with h1 | h1
        · exact nI_pos (by omega) h1
        · exact nI_ge f6 (by omega) h1
    · refine Or.inl ⟨n, m, row, col, rfl, rfl, hn, hm, hrow, hcol, rfl, rfl, ?_, ?_⟩
      · rw [oE_in hcol (by omega), xbd_eq, if_neg n10]
      · rw [if_neg (nI_pos (by omega)), if_neg (nI_ge hcol (by omega))]
theorem ix36 (r row col : Nat) : nI r * 36 + nI row * 6 + nI col = nI (36 * r + 6 * row + col) := by
  show nI r * nI 36 + nI row * nI 6 + nI col = _
  rw [pk_mul, pk_mul, nI_add, nI_add]; congr 1; omega
theorem ix36' (r row col : Nat) : (36 : Int32) * nI r + (6 : Int32) * nI row + nI col = nI (36 * r + 6 * row + col) := by
  show nI 36 * nI r + nI 6 * nI row + nI col = _
  rw [pk_mul, pk_mul, nI_add, nI_add]
theorem ix864 (s r row col : Nat) : (144 : Int32) * nI s + (36 : Int32) * nI r + (6 : Int32) * nI row + nI col = nI (144 * s + (36 * r + 6 * row + col)) := by
  show nI 144 * nI s + nI 36 * nI r + nI 6 * nI row + nI col = _
  rw [pk_mul, pk_mul, pk_mul, nI_add, nI_add, nI_add]; congr 1; omega
theorem xE_placeAt (r row col : Nat) : fE_placeAt (nI r) (nI row) (nI col) = some (nI (36 * r + 6 * row + col)) := by
  unfold fE_placeAt; rw [ix36]
theorem sim_15 : Sm15 Rel := by
  intro X Y h a1 a2 a3 a4
  have hB := (Rel_qB h).1
  have no1 : kE_who_32 a1 a2 a3 a4 X = some 1 := by unfold kE_who_32 kE_who_33; exact if_pos rfl
  have no2 : fM_who_23 a1 a2 a3 a4 Y = some (0, up2 Y 0 0 1) := by
    unfold fM_who_23 fM_who_24; rw [g0, xbd_eq, if_pos rfl]
  rcases oo_ix a1 (n := 6) (by decide) with h1 | ⟨s, hs, rfl⟩
  · refine Or.inr ⟨0, up2 Y 0 0 1, ?_, ?_, up2_at _ _ _ _, Rel_t h⟩
    · unfold kE_who; rw [eE_Session0 h1, xbd_eq, if_pos rfl]; exact no1
    · unfold fM_who; rw [eM_Session0 h1, xbd_eq, if_pos rfl]; exact no2
  rcases oo_ix a2 (n := 4) (by decide) with h1 | ⟨r, hr, rfl⟩
  · refine Or.inr ⟨0, up2 Y 0 0 1, ?_, ?_, up2_at _ _ _ _, Rel_t h⟩
    · unfold kE_who; rw [eE_Session hs, xbd_eq, if_neg n10, eE_Room0 h1, xbd_eq, if_pos rfl]; exact no1
    · unfold fM_who fM_isSeat; rw [eM_Session hs, xbd_eq, if_neg n10, eM_Room0 h1, xbd_eq, if_pos rfl]
      rw [show fM_isSeat_39 Y = some 0 from xgd_pos (Or.inl rfl) _, xbd_eq, if_pos rfl]; exact no2
  rcases seat_c hB hr a3 a4 with ⟨n, m, row, col, en, em, hn, hm, h3, h4, rfl, rfl, f1, f2⟩ | ⟨f1, f2, -⟩
  · obtain ⟨q, pa, hS, h16⟩ := rel_S h
    have hk : 36 * r + 6 * row + col < 144 := by omega
    refine Or.inl ⟨nI (q s (36 * r + 6 * row + col)) - 1, up2 Y 0 0 0, ?_, ?_, up2_at _ _ _ _, Rel_t h⟩
    · unfold fE_who fE_who_33
      have g := ((hS.1 s hs).1 _ hk).2.1
      rw [seg_at _ hs] at g
      rw [eE_Session hs, xbd_eq, if_neg n10, eE_Room hr, xbd_eq, if_neg n10, f1, xbd_eq, if_neg n10, me1, xbd_eq, xgd_pos (vi_ hs (by decide)), xE_placeAt, xbd_eq, xgd_pos (vi_ hk (by decide)), cl_ (show s < 100000 by omega), cl_ (show 36 * r + 6 * row + col < 100000 by omega), show (23 : Nat) + 1 + s = 24 + s by omega, g]
    · unfold fM_who fM_who_24
      rw [eM_Session hs, xbd_eq, if_neg n10, f2, xbd_eq, if_neg n10, g11, xbd_eq, if_neg n10, xlt_eq, ix864, xgd_pos (vi_ (by omega) (by decide)), cl_ (by omega)]
      show some (Y 17 _ - 1, _) = _
      rw [(hS.2 s _ hs hk).1]
  · refine Or.inr ⟨0, up2 Y 0 0 1, ?_, ?_, up2_at _ _ _ _, Rel_t h⟩
    · unfold kE_who; rw [eE_Session hs, xbd_eq, if_neg n10, eE_Room hr, xbd_eq, if_neg n10, f1, xbd_eq, if_pos rfl]; exact no1
    · unfold fM_who; rw [eM_Session hs, xbd_eq, if_neg n10, f2, xbd_eq, if_pos rfl]; exact no2
/-! taken in some session -/
def takP (q : Nat → Nat → Nat) (k : Nat) : Nat → Bool := fun s => decide (q s k ≠ 0)
theorem xR_isTaken {X : Mem} {q pa : Nat → Nat → Nat} (h : qC X q pa) {k : Nat} (hk : k < 144) : fR_isTaken (nI k) X = some (bz (anyB (takP q k) 6)) := by
  have step : ∀ i, i < 6 → bR_isTaken_2 (nI k) X (nI i) = if takP q k i = true then some (.inl (.inl 1)) else some (.inr (nI (i + 1))) := by
    intro i hi
    unfold bR_isTaken_2 gR_isTaken_2
    have g := ((h i hi).1 k hk).2.1
    have g0 := ((h i hi).1 k hk).1
    rw [seg_at _ hi] at g
    rw [if_neg (show ¬ (6 : Int32) ≤ nI i from nI_ltc hi (by decide)), xgd_pos (vi_ hi (by decide)), xgd_pos (vi_ hk (by decide)), cl_ (show i < 100000 by omega), cl_ (show k < 100000 by omega), show (23 : Nat) + 1 + i = 24 + i by omega, g, xlt_eq, nI_1, xgd_pos (Or.inr rfl)]
    unfold takP
    cases hq : q i k with
    | zero => rw [if_pos sit0, if_neg (by simp)]
    | succ c => rw [sit1, if_neg (nIm1 (by omega)), if_pos (by simp)]
  unfold fR_isTaken
  cases ho : fN (takP q k) 6 with
  | none =>
    have hr := xlp_run (b := bR_isTaken_2 (nI k) X) (r := .inr (nI 6)) (fun i => nI i) 6 (fun i hi => by rw [step i hi, if_neg (by rw [fN_none ho i hi]; decide)]) (by unfold bR_isTaken_2 gR_isTaken_2; exact if_pos (Int32.le_refl (nI 6))) 0 (Nat.zero_le _)
    rw [show (0 : Int32) = nI 0 from rfl, hr, xbd_eq]
    have hz : anyB (takP q k) 6 = false := by
      rw [Bool.eq_false_iff]; intro e
      obtain ⟨i, h1, h2⟩ := anyB_t.mp e
      rw [fN_none ho i h1] at h2; cases h2
    rw [hz]
    exact xgd_pos (Or.inl rfl) _
  | some j =>
    obtain ⟨h1, h2, h3⟩ := fN_some ho
    have hr := xlp_run (b := bR_isTaken_2 (nI k) X) (r := .inl 1) (fun i => nI i) j (fun i hi => by rw [step i (by omega), if_neg (by rw [h3 i hi]; decide)]) (by rw [step j h1, if_pos h2]) 0 (Nat.zero_le _)
    rw [show (0 : Int32) = nI 0 from rfl, hr, xbd_eq, anyB_t.mpr ⟨j, h1, h2⟩]
    rfl
theorem xM_taken {Y : Mem} {q pa : Nat → Nat → Nat} (hF : rF (Y 17) (Y 18) q pa) (hq : ∀ s k, s < 6 → k < 144 → q s k ≤ 40) {k : Nat} (hk : k < 144) (v4 v5 : Int32) : xlp (bM_block_37 v4 v5 (nI k) Y) (0, 0) = some (bz (anyB (takP q k) 6), nI 6) := by
  have hr := run2 (b := bM_block_37 v4 v5 (nI k) Y) (n := 6) (fun i => bz (anyB (takP q k) i)) (fun i hi => ?_) ?_
  · exact hr
  · dsimp only [bM_block_37, gM_block_37]
    have h17 := (hF i k hi hk).1
    have hq1 := hq i k hi hk
    rw [if_neg (show ¬ (6 : Int32) ≤ nI i from nI_ltc hi (by decide)), xlt_eq, ix144, xgd_pos (vi_ (by omega) (by decide)), cl_ (by omega), h17]
    unfold fM_block_66 fM_block_71
    simp only [xlt_eq, nI_1, bz_0]
    cases ha : anyB (takP q k) i with
    | true =>
      rw [if_neg (by decide)]
      rw [show anyB (takP q k) (i + 1) = true by show (anyB (takP q k) i || _) = true; rw [ha]; rfl]
      rfl
    | false =>
      rw [if_pos rfl]
      rw [show anyB (takP q k) (i + 1) = takP q k i by show (anyB (takP q k) i || _) = _; rw [ha]; rfl]
      unfold takP
      by_cases e : q i k = 0
      · rw [e, if_pos (by decide)]; rfl
      · rw [if_neg (nI_nle (by omega) (by omega))]; simp [e]; rfl
  · dsimp only [bM_block_37, gM_block_37]; exact if_pos (Int32.le_refl (nI 6))
theorem Rel_B {X X' Y Y' : Mem} (h : Rel X Y) (hX : ∀ j, j < 19 ∨ 23 ≤ j → X' j = X j) (hY : ∀ j, j ≠ 0 → (j < 13 ∨ 17 ≤ j) → Y' j = Y j) (h0 : Y' 0 7 = Y 0 7) (hB' : qB X' Y') : Rel X' Y' := by
  obtain ⟨q, pa, hT, hP, hB, hS, hO, hW, h16⟩ := h
  exact ⟨q, pa, qT_c (fun j h1 h2 => hX j (by omega)) (fun j h1 h2 => hY j (by omega) (by omega)) hT, qP_c (fun j hj => hX j (by omega)) h0 (hY 7 (by decide) (by decide)) hP, hB', qS_c (fun j h1 h2 => hX j (by omega)) (hY 17 (by decide) (by decide)) (hY 18 (by decide) (by decide)) hS, qO_c (hX 45 (by omega)) (hX 46 (by omega)) (hY 19 (by decide) (by decide)) (hY 20 (by decide) (by decide)) hO, qW_c (fun j h1 h2 => hX j (by omega)) (hY 21 (by decide) (by decide)) hW, by rw [h0, hY 21 (by decide) (by decide)]; exact h16⟩
theorem sim_11 : Sm11 Rel := by
  intro X Y h a1 a2 a3 a4
  rw [zb_bz]
  generalize (!decide (a4 = 0)) = z
  have hB := (Rel_qB h).1
  obtain ⟨q, pa, hS, h16⟩ := rel_S h
  have hq40 : ∀ s k, s < 6 → k < 144 → q s k ≤ 40 := fun s k hs hk => ((hS.1 s hs).1 k hk).1
  have no1 : kE_block_24 a1 a2 a3 (bz z) X = some 1 := by unfold kE_block_24 kE_block_25; exact if_pos rfl
  have no2 : fM_block_29 (bz z) 0 0 Y = some (0, up2 Y 0 0 1) := by
    unfold fM_block_29
    have hk0 := xM_taken hS.2 hq40 (k := 0) (by decide) (bz z) 0
    rw [show nI 0 = (0 : Int32) from rfl] at hk0
    rw [hk0, xbd_eq]
    have hz : ∀ v, fM_block_92 (bz z) 0 v 0 Y = some (0, up2 Y 0 0 1) := fun v => by
      unfold fM_block_92; rw [g0, xbd_eq, if_pos rfl]; exact xgd_pos (by decide) _
    unfold fM_block_79
    rw [hz, hz]
    exact ite_self _
  have notSeat : fM_isSeat a1 a2 a3 Y = some 0 → fM_block a1 a2 a3 (bz z) Y = some (0, up2 Y 0 0 1) := fun e => by
    unfold fM_block; rw [e, xbd_eq, if_pos rfl]; exact no2
  rcases oo_ix a1 (n := 4) (by decide) with h1 | ⟨r, hr, rfl⟩
  · refine Or.inr (Or.inl ⟨0, up2 Y 0 0 1, ?_, notSeat ?_, up2_at _ _ _ _, Rel_t h⟩)
    · unfold kE_block; rw [eE_Room0 h1, xbd_eq, if_pos rfl]; exact no1
    · unfold fM_isSeat; rw [eM_Room0 h1, xbd_eq, if_pos rfl]; exact xgd_pos (Or.inl rfl) _
  rcases seat_c hB hr a2 a3 with ⟨n, m, row, col, en, em, hn, hm, h3, h4, rfl, rfl, f1, f2⟩ | ⟨f1, f2, -⟩
  · have hk : 36 * r + 6 * row + col < 144 := by omega
    generalize hkk : 36 * r + 6 * row + col = k at hk
    have hx : vp_in (nI k) 144 := vi_ hk (by decide)
    have ecl : (nI k).toNatClampNeg = k := cl_ (by omega)
    have eM : fM_block (nI r) (nI row) (nI col) (bz z) Y = fM_block_79 (bz z) 1 (nI k) (bz (anyB (takP q k) 6)) Y := by
      unfold fM_block fM_block_29; rw [f2, xbd_eq, if_neg n10, ix36', hkk, xM_taken hS.2 hq40 hk, xbd_eq]
    have eE : fE_block (nI r) (nI row) (nI col) (bz z) X = (if bz (anyB (takP q k) 6) = 0 then (xgd (vp_in (nI k) 144) (if (X 22 (nI k).toNatClampNeg) = bz z then (fE_block_78 (bz z) (nI k) 0 X) else (fE_block_78 (bz z) (nI k) 1 X))) else none) := by
      unfold fE_block fE_block_25; rw [eE_Room hr, xbd_eq, if_neg n10, f1, xbd_eq, if_neg n10, me1, xbd_eq, xE_placeAt, xbd_eq, hkk, xR_isTaken hS.1 hk, xbd_eq]
    cases ht : anyB (takP q k) 6 with
    | true =>
      refine Or.inr (Or.inr ⟨0, up2 Y 0 0 2, ?_, ?_, up2_at _ _ _ _, Rel_t h⟩)
      · unfold kE_block kE_block_25; rw [eE_Room hr, xbd_eq, if_neg n10, f1, xbd_eq, if_neg n10, if_neg n10, xE_placeAt, xbd_eq, hkk, xR_isTaken hS.1 hk, xbd_eq, ht]; rfl
      · rw [eM, ht]; unfold fM_block_79 fM_block_92
        rw [if_neg (by decide), g10, xbd_eq, if_pos rfl]; exact xgd_pos (by decide) _
    | false =>
      have hb := (Rel_qB h).2 k hk
      refine Or.inl ⟨if Y 16 k = bz z then 0 else 1, up2 X 22 k (bz z), up2 (up2 Y 0 0 0) 16 k (bz z), ?_, ?_, rfl, ?_⟩
      · rw [eE, ht, if_pos (by decide), xgd_pos hx]
        unfold fE_block_78
        rw [ecl, hb.1, bz_nar]
        by_cases e : Y 16 k = bz z
        · rw [if_pos e, if_pos e, xgd_pos hx, xlt_eq]; exact xgd_pos (by decide) _
        · rw [if_neg e, if_neg e, xgd_pos hx, xlt_eq]; exact xgd_pos (by decide) _
      · rw [eM, ht]; unfold fM_block_79 fM_block_92
        rw [if_pos (by decide), g11, xbd_eq, if_neg n10, xgd_pos hx]
        unfold fM_block_117
        rw [ecl, bz_nar]
        show (if Y 16 k = bz z then _ else _) = _
        by_cases e : Y 16 k = bz z
        · rw [if_pos e, if_pos e, xgd_pos hx, xlt_eq]; exact xgd_pos (by decide) _
        · rw [if_neg e, if_neg e, xgd_pos hx, xlt_eq]; exact xgd_pos (by decide) _
      · refine Rel_B h (fun j hj => up2_ne (by omega)) (fun j h0 hj => by rw [up2_ne (by omega), up2_ne h0]) rfl ⟨hB, fun j hj => ?_⟩
        rw [up2_same, up2_same, up2_ne (by decide)]
        by_cases e : j = k
        · subst e; rw [pk_us, pk_us]; exact ⟨rfl, isB_bz z⟩
        · rw [pk_un e, pk_un e]; exact (Rel_qB h).2 j hj
  · refine Or.inr (Or.inl ⟨0, up2 Y 0 0 1, ?_, notSeat f2, up2_at _ _ _ _, Rel_t h⟩)
    unfold kE_block; rw [eE_Room hr, xbd_eq, if_neg n10, f1, xbd_eq, if_pos rfl]; exact no1
