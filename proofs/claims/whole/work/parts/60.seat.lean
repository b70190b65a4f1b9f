/-! ===== seat ===== -/
theorem xlp_two {σ ρ τ π : Type} {b1 : σ → Option (ρ ⊕ σ)} {b2 : τ → Option (π ⊕ τ)} (P : Nat → σ → τ → Prop) (Post : ρ → π → Prop) (K : Nat) (hs : ∀ i s t, i < K → P i s t → ∃ s' t', b1 s = some (.inr s') ∧ b2 t = some (.inr t') ∧ P (i + 1) s' t') (he : ∀ s t, P K s t → ∃ r u, b1 s = some (.inl r) ∧ b2 t = some (.inl u) ∧ Post r u) : ∀ s t, P 0 s t → ∃ r u, xlp b1 s = some r ∧ xlp b2 t = some u ∧ Post r u := by
  have key : ∀ d i s t, i + d = K → P i s t → ∃ r u, xlp b1 s = some r ∧ xlp b2 t = some u ∧ Post r u := by
    intro d
    induction d with
    | zero =>
      intro i s t hi hp
      have e : i = K := by omega
      subst e
      obtain ⟨r, u, e1, e2, h⟩ := he s t hp
      exact ⟨r, u, xlp_end e1, xlp_end e2, h⟩
    | succ d ih =>
      intro i s t hi hp
      obtain ⟨s', t', e1, e2, h⟩ := hs i s t (by omega) hp
      obtain ⟨r, u, f1, f2, h'⟩ := ih (i + 1) s' t' (by omega) h
      exact ⟨r, u, by rw [xlp_go e1]; exact f1, by rw [xlp_go e2]; exact f2, h'⟩
  intro s t hp
  exact key K 0 s t (by omega) hp
theorem wr_eq {X Y : Mem} {q pa : Nat → Nat → Nat} (h9 : r9 (X 19) (X 20) (X 21) (Y 13) (Y 14) (Y 15)) (hS : qS X Y q pa) {s r p : Nat} (hs : s < 6) (hr : r < 4) (hp : p < 9) (a b : Int32) : ∃ w, fR_isWritten (nI s) (nI r) a b (nI p) X = some (bz w) ∧ fM_sitsFor (nI s) (nI r) a b (nI p) Y = some (bz w) := by
  unfold fR_isWritten fM_sitsFor fR_isWritten_34 fR_isWritten_35 fM_sitsFor_59 fM_sitsFor_60
  rcases seat_c h9 hr a b with ⟨n, m, row, col, en, em, hn, hm, h3, h4, rfl, rfl, f1, f2⟩ | ⟨f1, f2, -⟩
  · have hk : 36 * r + 6 * row + col < 144 := by omega
    rw [f1, f2, xbd_eq, xbd_eq, if_neg n10, if_neg n10, xgd_pos (vi_ hs (by decide)), xE_placeAt, xbd_eq, xlt_eq, ix864, xgd_pos (vi_ hk (by decide)), xgd_pos (vi_ (show 144 * s + (36 * r + 6 * row + col) < 864 by omega) (by decide)), cl_ (show s < 100000 by omega), cl_ (show 36 * r + 6 * row + col < 100000 by omega), cl_ (show 144 * s + (36 * r + 6 * row + col) < 100000 by omega), show (30 : Nat) + 1 + s = 31 + s by omega, (hS.2 s _ hs hk).1]
    obtain ⟨g1, g2, g3, g4⟩ := (hS.1 s hs).1 _ hk
    rw [seg_at _ hs] at g3 g4
    by_cases e : q s (36 * r + 6 * row + col) = 0
    · rw [g4 e, e, if_neg (fun e9 => nIm1 (show p < 2 ^ 31 by omega) e9.symm), if_pos (by decide)]
      exact ⟨false, xgd_pos (by decide) _, xgd_pos (by decide) _⟩
    · rw [(g3 e).2, if_neg (nI_nle (by omega) (by omega)), xgd_pos (vi_ (show 144 * s + (36 * r + 6 * row + col) < 864 by omega) (by decide)), (hS.2 s _ hs hk).2 e]
      by_cases e2 : nI (pa s (36 * r + 6 * row + col)) = nI p
      · rw [if_pos e2]; exact ⟨true, xgd_pos (by decide) _, xgd_pos (by decide) _⟩
      · rw [if_neg e2]; exact ⟨false, xgd_pos (by decide) _, xgd_pos (by decide) _⟩
  · rw [f1, f2, xbd_eq, xbd_eq, if_pos rfl, if_pos rfl]
    exact ⟨false, xgd_pos (by decide) _, xgd_pos (by decide) _⟩
/-- the neighbours, as both see them -/
theorem nb_eq {X Y : Mem} {q pa : Nat → Nat → Nat} (h9 : r9 (X 19) (X 20) (X 21) (Y 13) (Y 14) (Y 15)) (hS : qS X Y q pa) {s p : Nat} (hs : s < 6) (hp : p < 9) : ∃ nb : Nat → Nat → Nat → Bool, ∀ r row col, r < 4 → (fR_hasNeighbour (nI s) (nI r) (nI row) (nI col) (nI p) X = some (bz (nb r row col)) ∧ ∀ v2 v4 z, fM_seatFor_95 (nI s) v2 (nI p) v4 (nI r) (nI row) (nI col) z Y = fM_seatFor_170 (nI s) v2 (nI p) v4 z (bz (nb r row col)) Y) := by
  have key : ∀ r row col, r < 4 → ∃ w, fR_hasNeighbour (nI s) (nI r) (nI row) (nI col) (nI p) X = some (bz w) ∧ ∀ v2 v4 z, fM_seatFor_95 (nI s) v2 (nI p) v4 (nI r) (nI row) (nI col) z Y = fM_seatFor_170 (nI s) v2 (nI p) v4 z (bz w) Y := by
    intro r row col hr
    obtain ⟨w1, a1, b1⟩ := wr_eq h9 hS hs hr hp (nI row) (nI col - 1)
    obtain ⟨w2, a2, b2⟩ := wr_eq h9 hS hs hr hp (nI row) (nI col + 1)
    obtain ⟨w3, a3, b3⟩ := wr_eq h9 hS hs hr hp (nI row - 1) (nI col)
    obtain ⟨w4, a4, b4⟩ := wr_eq h9 hS hs hr hp (nI row + 1) (nI col)
    refine ⟨w1 || w2 || w3 || w4, ?_, fun v2 v4 z => ?_⟩
    · unfold fR_hasNeighbour fR_hasNeighbour_64 fR_hasNeighbour_69
      rw [a1, xbd_eq, a2, xbd_eq, a3, xbd_eq, a4, xbd_eq]
      simp only [bz_0]
      rw [xgd_pos (by decide), xgd_pos (by decide)]
      cases w1 <;> cases w2 <;> cases w3 <;> cases w4 <;> rfl
    · unfold fM_seatFor_95 fM_seatFor_165
      rw [b1, xbd_eq, b2, xbd_eq, b3, xbd_eq, b4, xbd_eq]
      simp only [bz_0]
      cases w1 <;> cases w2 <;> cases w3 <;> cases w4 <;> rfl
  refine ⟨fun r row col => @dite _ (r < 4) _ (fun h => Classical.choose (key r row col h)) (fun _ => false), fun r row col hr => ?_⟩
  dsimp only
  rw [dif_pos hr]
  exact Classical.choose_spec (key r row col hr)
/-- the seats that will do -/
def okA (q : Nat → Nat → Nat) (nb : Nat → Nat → Nat → Bool) (y16 : Nat → Int32) (s k : Nat) : Bool := decide (y16 k = 0) && (decide (q s k = 0) && !nb (k / 36) (k % 36 / 6) (k % 6))
def okP (q : Nat → Nat → Nat) (nb : Nat → Nat → Nat → Bool) (Y : Mem) (s c : Nat) (k : Nat) : Bool := (decide (k % 36 / 6 < (Y 13 (k / 36)).toNatClampNeg) && decide (k % 6 < (Y 14 (k / 36)).toNatClampNeg)) && (decide (Y 15 (k / 36) = Y 5 c) && okA q nb (Y 16) s k)
theorem dec36 {k : Nat} (hk : k < 144) : nI k / 36 = nI (k / 36) ∧ (nI k - nI (k / 36) * 36) / 6 = nI (k % 36 / 6) ∧ nI k - nI k / 6 * 6 = nI (k % 6) := by
  have h1 : nI k / 36 = nI (k / 36) := pk_div (d := 36) (by omega) (by decide) (by decide)
  have h2 : nI k - nI k / 36 * 36 = nI (k % 36) := pk_rem (d := 36) (by omega) (by decide) (by decide)
  have h3 : nI k - nI k / 6 * 6 = nI (k % 6) := pk_rem (d := 6) (by omega) (by decide) (by decide)
  have h4 : nI (k % 36) / 6 = nI (k % 36 / 6) := pk_div (d := 6) (by omega) (by decide) (by decide)
  exact ⟨h1, by rw [← h1, h2, h4], h3⟩
theorem xM_seatFor {X Y : Mem} {q pa : Nat → Nat → Nat} (h9 : r9 (X 19) (X 20) (X 21) (Y 13) (Y 14) (Y 15)) (hS : qS X Y q pa) {nb : Nat → Nat → Nat → Bool} {s c p : Nat} (hs : s < 6) (hc : c < 40) (hnb : ∀ r row col, r < 4 → (fR_hasNeighbour (nI s) (nI r) (nI row) (nI col) (nI p) X = some (bz (nb r row col)) ∧ ∀ v2 v4 z, fM_seatFor_95 (nI s) v2 (nI p) v4 (nI r) (nI row) (nI col) z Y = fM_seatFor_170 (nI s) v2 (nI p) v4 z (bz (nb r row col)) Y)) : fM_seatFor (nI s) (nI c) (nI p) Y = some (o2 (fN (okP q nb Y s c) 144)) := by
  unfold fM_seatFor
  refine srch (fun k hk => ?_) ?_ (fun _ => rfl)
  · unfold bM_seatFor_3 gM_seatFor_3
    obtain ⟨d1, d2, d3⟩ := dec36 hk
    have hr : k / 36 < 4 := by omega
    have hq1 := ((hS.1 s hs).1 k hk).1
    rw [if_neg (show ¬ (144 : Int32) ≤ nI k from nI_ltc hk (by decide))]
    simp only [xlt_eq, d1, d2, d3, ix144]
    rw [xgd_pos (vi_ hr (by decide)), xgd_pos (vi_ hc (by decide)), xgd_pos (vi_ hk (by decide)), xgd_pos (vi_ (show 144 * s + k < 864 by omega) (by decide)), cl_ (show k / 36 < 100000 by omega), cl_ (show c < 100000 by omega), cl_ (show k < 100000 by omega), cl_ (show 144 * s + k < 100000 by omega), (hS.2 s k hs hk).1]
    unfold fM_seatFor_94
    rw [(hnb (k / 36) (k % 36 / 6) (k % 6) hr).2, (hnb (k / 36) (k % 36 / 6) (k % 6) hr).2]
    unfold fM_seatFor_170 fM_seatFor_185
    rw [if_pos rfl, if_neg n10, xlt_eq, nI_1]
    obtain ⟨-, -, -, ⟨n', hn', en'⟩, ⟨m', hm', em'⟩, -⟩ := h9 (k / 36) hr
    unfold okP okA
    rw [en', em', cl_ (show n' < 100000 by omega), cl_ (show m' < 100000 by omega)]
    rcases seat_c h9 hr (nI (k % 36 / 6)) (nI (k % 6)) with ⟨n, m, row, col, en, em, hn, hm, h3, h4, e3, e4, f1, f2⟩ | ⟨f1, f2, f3⟩
    · have e1 : n' = n := (nI_eq (by omega) (by omega)).mp (en'.symm.trans en)
      have e2 : m' = m := (nI_eq (by omega) (by omega)).mp (em'.symm.trans em)
      have e5 : k % 36 / 6 = row := (nI_eq (by omega) (by omega)).mp e3
      have e6 : k % 6 = col := (nI_eq (by omega) (by omega)).mp e4
      rw [f2, xbd_eq, if_neg n10, e1, e2, e5, e6, decide_eq_true h3, decide_eq_true h4]
      by_cases c1 : Y 15 (k / 36) = Y 5 c
      · rw [if_pos c1, decide_eq_true c1]
        by_cases c2 : Y 16 k = 0
        · rw [if_pos c2, decide_eq_true c2]
          by_cases c3 : q s k = 0
          · rw [c3, if_pos (by decide), decide_eq_true rfl]
            cases hnn : nb (k / 36) row col with
            | false => rw [if_pos (by decide), if_pos (by decide)]
            | true => rw [if_neg (by decide), if_neg (by decide)]
          · rw [if_neg (fun e => c3 ((nI_zero (by omega)).mp e)), decide_eq_false c3, if_neg (by simp)]
        · rw [if_neg c2, decide_eq_false c2, if_neg (by simp)]
      · rw [if_neg c1, decide_eq_false c1, if_neg (by simp)]
    · rw [f2, xbd_eq, if_pos rfl]
      have : (decide (k % 36 / 6 < n') && decide (k % 6 < m')) = false := by
        rw [Bool.eq_false_iff]; intro e
        rw [Bool.and_eq_true, decide_eq_true_eq, decide_eq_true_eq] at e
        exact f3 n' m' _ _ en' em' rfl rfl e.1 e.2 hn' hm'
      rw [this, if_neg (by simp)]
  · unfold bM_seatFor_3 gM_seatFor_3; exact if_pos (Int32.le_refl (nI 144))
/-- a search whose find is another number than the one that is counted -/
theorem srchV {ρ : Type} {b : Int32 → Option ((ρ ⊕ Int32) ⊕ Int32)} {P : Nat → Bool} {n : Nat} {f : Nat → ρ} (hb : ∀ i, i < n → b (nI i) = if P i = true then some (.inl (.inl (f i))) else some (.inr (nI (i + 1)))) (he : b (nI n) = some (.inl (.inr (nI n)))) : xlp b 0 = some (match fN P n with | some i => .inl (f i) | none => .inr (nI n)) := by
  cases hp : fN P n with
  | none =>
    have h := xlp_run (b := b) (r := .inr (nI n)) (fun i => nI i) n (fun i hi => by rw [hb i hi, if_neg (by rw [fN_none hp i hi]; decide)]) he 0 (Nat.zero_le _)
    exact h
  | some k =>
    obtain ⟨h1, h2, h3⟩ := fN_some hp
    have h := xlp_run (b := b) (r := .inl (f k)) (fun i => nI i) k (fun i hi => by rw [hb i (by omega), if_neg (by rw [h3 i hi]; decide)]) (by rw [hb k h1, if_pos h2]) 0 (Nat.zero_le _)
    exact h
theorem xR_first {X Y : Mem} {q pa : Nat → Nat → Nat} (h9 : r9 (X 19) (X 20) (X 21) (Y 13) (Y 14) (Y 15)) (h10 : r10 (X 22) (Y 16)) (hS : qS X Y q pa) {nb : Nat → Nat → Nat → Bool} {s r p : Nat} (hs : s < 6) (hr : r < 4) (hnb : ∀ r row col, r < 4 → (fR_hasNeighbour (nI s) (nI r) (nI row) (nI col) (nI p) X = some (bz (nb r row col)) ∧ ∀ v2 v4 z, fM_seatFor_95 (nI s) v2 (nI p) v4 (nI r) (nI row) (nI col) z Y = fM_seatFor_170 (nI s) v2 (nI p) v4 z (bz (nb r row col)) Y)) {n m : Nat} (hn : n ≤ 6) (hm : m ≤ 6) (en : Y 13 r = nI n) (em : Y 14 r = nI m) :
    (∃ row col, row < n ∧ col < m ∧ okA q nb (Y 16) s (36 * r + 6 * row + col) = true ∧ (∀ row' col', row' < n → col' < m → 6 * row' + col' < 6 * row + col → okA q nb (Y 16) s (36 * r + 6 * row' + col') = false) ∧ fR_firstPlace (nI s) (nI r) (nI p) X = some (nI (36 * r + 6 * row + col))) ∨ ((∀ row' col', row' < n → col' < m → okA q nb (Y 16) s (36 * r + 6 * row' + col') = false) ∧ fR_firstPlace (nI s) (nI r) (nI p) X = some (-1)) := by
  obtain ⟨x1, x2, -, -, -, -⟩ := h9 r hr
  have vr : vp_in (nI r) 4 := vi_ hr (by decide)
  have cr : (nI r).toNatClampNeg = r := cl_ (by omega)
  have inner : ∀ row, row < n → xlp (bR_firstPlace_17 (nI s) (nI r) (nI p) (nI row) X) 0 = some (match fN (fun col => okA q nb (Y 16) s (36 * r + 6 * row + col)) m with | some i => .inl (nI (36 * r + 6 * row + i)) | none => .inr (nI m)) := by
    intro row hrow
    refine srchV (fun col hcol => ?_) ?_
    · unfold bR_firstPlace_17 gR_firstPlace_17 fR_firstPlace_78
      have hk : 36 * r + 6 * row + col < 144 := by omega
      obtain ⟨g1, g2, -, -⟩ := (hS.1 s hs).1 _ hk
      rw [seg_at _ hs] at g2
      rw [xgd_pos vr, cr, x2, em, if_neg (nI_ltc hcol (by omega)), xE_placeAt, xbd_eq, xgd_pos (vi_ hk (by decide)), xgd_pos (vi_ hs (by decide)), xgd_pos (vi_ hk (by decide)), cl_ (show 36 * r + 6 * row + col < 100000 by omega), cl_ (show s < 100000 by omega), (h10 _ hk).1, show (23 : Nat) + 1 + s = 24 + s by omega, g2, (hnb r row col hr).1, xbd_eq, xlt_eq, nI_1]
      unfold okA
      rw [show (36 * r + 6 * row + col) / 36 = r by omega, show (36 * r + 6 * row + col) % 36 / 6 = row by omega, show (36 * r + 6 * row + col) % 6 = col by omega]
      by_cases c2 : Y 16 (36 * r + 6 * row + col) = 0
      · rw [if_pos c2, decide_eq_true c2]
        cases c3 : q s (36 * r + 6 * row + col) with
        | zero =>
          rw [if_pos sit0, decide_eq_true rfl]
          cases hnn : nb r row col with
          | false => rw [if_pos (by decide), if_pos (by decide)]
          | true => rw [if_neg (by decide), if_neg (by decide)]
        | succ d => rw [sit1, if_neg (nIm1 (by omega)), if_neg (by simp)]
      · rw [if_neg c2, decide_eq_false c2, if_neg (by simp)]
    · unfold bR_firstPlace_17 gR_firstPlace_17
      rw [xgd_pos vr, cr, x2, em]; exact if_pos (Int32.le_refl _)
  have outer : xlp (bR_firstPlace_3 (nI s) (nI r) (nI p) X) 0 = some (match fN (fun row => (fN (fun col => okA q nb (Y 16) s (36 * r + 6 * row + col)) m).isSome) n with | some i => .inl (nI (36 * r + 6 * i + (fN (fun col => okA q nb (Y 16) s (36 * r + 6 * i + col)) m).getD 0)) | none => .inr (nI n)) := by
    refine srchV (f := fun i => nI (36 * r + 6 * i + (fN (fun col => okA q nb (Y 16) s (36 * r + 6 * i + col)) m).getD 0)) (fun row hrow => ?_) ?_
    · unfold bR_firstPlace_3 gR_firstPlace_3 fR_firstPlace_84
      rw [xgd_pos vr, cr, x1, en, if_neg (nI_ltc hrow (by omega)), inner row hrow, xbd_eq, xlt_eq, nI_1]
      cases fN (fun col => okA q nb (Y 16) s (36 * r + 6 * row + col)) m with
      | none => rfl
      | some i => rfl
    · unfold bR_firstPlace_3 gR_firstPlace_3
      rw [xgd_pos vr, cr, x1, en]; exact if_pos (Int32.le_refl _)
  unfold fR_firstPlace
  rw [outer, xbd_eq]
  cases ho : fN (fun row => (fN (fun col => okA q nb (Y 16) s (36 * r + 6 * row + col)) m).isSome) n with
  | none =>
    refine Or.inr ⟨fun row' col' h1 h2 => ?_, rfl⟩
    have h3 := fN_none ho row' h1
    cases h4 : fN (fun col => okA q nb (Y 16) s (36 * r + 6 * row' + col)) m with
    | none => exact fN_none h4 col' h2
    | some i => rw [h4] at h3; cases h3
  | some row =>
    obtain ⟨h1, h2, h3⟩ := fN_some ho
    cases h4 : fN (fun col => okA q nb (Y 16) s (36 * r + 6 * row + col)) m with
    | none => rw [h4] at h2; cases h2
    | some col =>
      obtain ⟨k1, k2, k3⟩ := fN_some h4
      refine Or.inl ⟨row, col, h1, k1, k2, fun row' col' g1 g2 g3 => ?_, by show some (nI (36 * r + 6 * row + (fN (fun col => okA q nb (Y 16) s (36 * r + 6 * row + col)) m).getD 0)) = _; rw [h4]; rfl⟩
      by_cases e : row' = row
      · subst e; exact k3 col' (by omega)
      · have h5 := h3 row' (by omega)
        cases h6 : fN (fun col => okA q nb (Y 16) s (36 * r + 6 * row' + col)) m with
        | none => exact fN_none h6 col' g2
        | some i => rw [h6] at h5; cases h5
