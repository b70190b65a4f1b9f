/-! ===== a seat is given; seat ===== -/
theorem seg3b (X : Mem) {s c k : Nat} {u v w : Int32} (hs : s < 6) : seg (up2 (up2 (up2 X (24 + s) k u) (31 + s) k v) (38 + s) c w) 24 6 = up2 (seg X 24 6) s k u ∧ seg (up2 (up2 (up2 X (24 + s) k u) (31 + s) k v) (38 + s) c w) 31 6 = up2 (seg X 31 6) s k v ∧ seg (up2 (up2 (up2 X (24 + s) k u) (31 + s) k v) (38 + s) c w) 38 6 = up2 (seg X 38 6) s c w := by
  refine ⟨?_, ?_, ?_⟩
  · rw [seg_eq (X := up2 X (24 + s) k u) (fun j h1 h2 => by rw [up2_ne (by omega), up2_ne (by omega)]), seg_up _ hs]
  · rw [seg_eq (X := up2 (up2 X (24 + s) k u) (31 + s) k v) (fun j h1 h2 => up2_ne (by omega)), seg_up _ hs, seg_eq (X := X) (fun j h1 h2 => up2_ne (by omega))]
  · rw [seg_up _ hs, seg_eq (X := X) (fun j h1 h2 => by rw [up2_ne (by omega), up2_ne (by omega)])]
theorem rF_give {y17 y18 : Nat → Int32} {q pa : Nat → Nat → Nat} (h : rF y17 y18 q pa) {s k c p : Nat} (hk : k < 144) : rF (upd y17 (144 * s + k) (nI (c + 1))) (upd y18 (144 * s + k) (nI p)) (un2 q s k (c + 1)) (un2 pa s k p) := by
  intro s' k' hs' hk'
  by_cases e : s' = s ∧ k' = k
  · obtain ⟨rfl, rfl⟩ := e
    rw [pk_us, pk_us, un2_s, un2_s, un_s, un_s]
    exact ⟨rfl, fun _ => rfl⟩
  · rw [pk_un (by omega), pk_un (by omega)]
    by_cases e1 : s' = s
    · subst e1
      rw [un2_s, un2_s, un_n (fun e2 => e ⟨rfl, e2⟩), un_n (fun e2 => e ⟨rfl, e2⟩)]; exact h s' k' hs' hk'
    · rw [un2_n e1, un2_n e1]; exact h s' k' hs' hk'
/-- giveSeat, to one who has no seat in the session: the first that will do, or none -/
theorem xR_give {X Y : Mem} {q pa : Nat → Nat → Nat} (h9 : r9 (X 19) (X 20) (X 21) (Y 13) (Y 14) (Y 15)) (h10 : r10 (X 22) (Y 16)) (h4 : r4 (X 5) (Y 5)) (hS : qS X Y q pa) {nb : Nat → Nat → Nat → Bool} {s c p : Nat} (hs : s < 6) (hc : c < 40) (hnb : ∀ r row col, r < 4 → (fR_hasNeighbour (nI s) (nI r) (nI row) (nI col) (nI p) X = some (bz (nb r row col)) ∧ ∀ v2 v4 z, fM_seatFor_95 (nI s) v2 (nI p) v4 (nI r) (nI row) (nI col) z Y = fM_seatFor_170 (nI s) v2 (nI p) v4 z (bz (nb r row col)) Y)) (hno : X (38 + s) c = -1) :
    fR_giveSeat (nI s) (nI c) (nI p) (Y 5 c) X = match fN (okP q nb Y s c) 144 with
      | some k => some (1, up2 (up2 (up2 X (24 + s) k (nI c)) (31 + s) k (nI p)) (38 + s) c (nI k))
      | none => some (0, X) := by
  have e1 : (23 : Nat) + 1 + (nI s).toNatClampNeg = 24 + s := by rw [cl_ (by omega)]
  have e2 : (30 : Nat) + 1 + (nI s).toNatClampNeg = 31 + s := by rw [cl_ (by omega)]
  have e3 : (37 : Nat) + 1 + (nI s).toNatClampNeg = 38 + s := by rw [cl_ (by omega)]
  have v1 : vp_in (nI s) 6 := vi_ hs (by decide)
  have v2 : vp_in (nI c) 40 := vi_ hc (by decide)
  have give : ∀ v5 k, k < 144 → fR_giveSeat_47 (nI s) (nI c) (nI p) (Y 5 c) v5 (nI k) X = some (.inl (.inl (1, up2 (up2 (up2 X (24 + s) k (nI c)) (31 + s) k (nI p)) (38 + s) c (nI k)))) := by
    intro v5 k hk
    unfold fR_giveSeat_47
    rw [if_neg (nIm1 (by omega)), e1, e2, e3, cl_ (show k < 100000 by omega), cl_ (show c < 100000 by omega)]
    simp only [xlt_eq, xgd_pos v1, xgd_pos v2, xgd_pos (vi_ hk (show 144 < 100000 by decide))]
    exact xgd_pos (by decide) _
  have skip : ∀ v5, fR_giveSeat_47 (nI s) (nI c) (nI p) (Y 5 c) v5 (-1) X = some (.inr (v5 + 1, X)) := fun v5 => if_pos rfl
  -- in room r: what is found, if the room is of the kind
  have room : ∀ r, r < 4 → (∃ k, 36 * r ≤ k ∧ k < 36 * r + 36 ∧ okP q nb Y s c k = true ∧ (∀ k', 36 * r ≤ k' → k' < k → okP q nb Y s c k' = false) ∧ bR_giveSeat_17 (nI s) (nI c) (nI p) (Y 5 c) (nI r, X) = some (.inl (.inl (1, up2 (up2 (up2 X (24 + s) k (nI c)) (31 + s) k (nI p)) (38 + s) c (nI k))))) ∨ ((∀ k', 36 * r ≤ k' → k' < 36 * r + 36 → okP q nb Y s c k' = false) ∧ bR_giveSeat_17 (nI s) (nI c) (nI p) (Y 5 c) (nI r, X) = some (.inr (nI (r + 1), X))) := by
    intro r hr
    dsimp only [bR_giveSeat_17, gR_giveSeat_17]
    obtain ⟨x1, x2, x3, ⟨n, hn, en⟩, ⟨m, hm, em⟩, -⟩ := h9 r hr
    rw [if_neg (show ¬ (4 : Int32) ≤ nI r from nI_ltc hr (by decide)), xgd_pos (vi_ hr (by decide)), cl_ (show r < 100000 by omega)]
    have hP : ∀ k, 36 * r ≤ k → k < 36 * r + 36 → okP q nb Y s c k = ((decide (k % 36 / 6 < n) && decide (k % 6 < m)) && (decide (Y 15 r = Y 5 c) && okA q nb (Y 16) s k)) := by
      intro k h1 h2
      unfold okP
      rw [show k / 36 = r by omega, en, em, cl_ (show n < 100000 by omega), cl_ (show m < 100000 by omega)]
    by_cases ec : Y 15 r = Y 5 c
    · rw [if_pos (x3.trans ec)]
      rcases xR_first h9 h10 hS hs hr hnb hn hm en em with ⟨row, col, f1, f2, f3, f4, f5⟩ | ⟨f1, f2⟩
      · rw [f5, xbd_eq, give _ _ (by omega)]
        refine Or.inl ⟨36 * r + 6 * row + col, by omega, by omega, ?_, fun k' g1 g2 => ?_, rfl⟩
        · rw [hP _ (by omega) (by omega), f3, decide_eq_true ec, decide_eq_true (show (36 * r + 6 * row + col) % 36 / 6 < n by omega), decide_eq_true (show (36 * r + 6 * row + col) % 6 < m by omega)]
          rfl
        · rw [hP _ g1 (by omega)]
          by_cases c1 : k' % 36 / 6 < n
          · by_cases c2 : k' % 6 < m
            · have := f4 (k' % 36 / 6) (k' % 6) c1 c2 (by omega)
              rw [show 36 * r + 6 * (k' % 36 / 6) + k' % 6 = k' by omega] at this
              rw [this]; simp
            · rw [decide_eq_false c2]; simp
          · rw [decide_eq_false c1]; simp
      · rw [f2, xbd_eq, skip, nI_1]
        refine Or.inr ⟨fun k' g1 g2 => ?_, rfl⟩
        rw [hP _ g1 (by omega)]
        by_cases c1 : k' % 36 / 6 < n
        · by_cases c2 : k' % 6 < m
          · have := f1 (k' % 36 / 6) (k' % 6) c1 c2
            rw [show 36 * r + 6 * (k' % 36 / 6) + k' % 6 = k' by omega] at this
            rw [this]; simp
          · rw [decide_eq_false c2]; simp
        · rw [decide_eq_false c1]; simp
    · rw [if_neg (fun e9 => ec (x3.symm.trans e9)), skip, nI_1]
      refine Or.inr ⟨fun k' g1 g2 => ?_, rfl⟩
      rw [hP _ g1 (by omega), decide_eq_false ec]; simp
  have loop : ∃ t, xlp (bR_giveSeat_17 (nI s) (nI c) (nI p) (Y 5 c)) (0, X) = some t ∧ ((∃ k, fN (okP q nb Y s c) 144 = some k ∧ t = .inl (1, up2 (up2 (up2 X (24 + s) k (nI c)) (31 + s) k (nI p)) (38 + s) c (nI k))) ∨ (fN (okP q nb Y s c) 144 = none ∧ ∃ v, t = .inr (v, X))) := by
    refine xlp_inv (fun r (st : Int32 × Mem) => st = (nI r, X) ∧ ∀ k', k' < 36 * r → okP q nb Y s c k' = false) _ 4 ?_ (0, X) ⟨rfl, fun k' hk => absurd hk (by omega)⟩
    rintro r st hr ⟨rfl, hz⟩
    by_cases e : r = 4
    · subst e
      refine Or.inl ⟨.inr (nI 4, X), ?_, Or.inr ⟨fN_no hz, nI 4, rfl⟩⟩
      dsimp only [bR_giveSeat_17, gR_giveSeat_17]
      exact if_pos (Int32.le_refl (nI 4))
    · rcases room r (by omega) with ⟨k, k1, k2, k3, k4, k5⟩ | ⟨k1, k2⟩
      · refine Or.inl ⟨_, k5, Or.inl ⟨k, fN_is (by omega) k3 (fun j hj => ?_), rfl⟩⟩
        by_cases c1 : j < 36 * r
        · exact hz j c1
        · exact k4 j (by omega) hj
      · refine Or.inr ⟨by omega, _, k2, rfl, fun k' hk' => ?_⟩
        by_cases c1 : k' < 36 * r
        · exact hz k' c1
        · exact k1 k' (by omega) (by omega)
  obtain ⟨t, t1, t2⟩ := loop
  unfold fR_giveSeat
  rw [xgd_pos v1, xgd_pos v2, e3, cl_ (show c < 100000 by omega), if_pos hno, t1, xbd_eq]
  rcases t2 with ⟨k, t2, rfl⟩ | ⟨t2, v, rfl⟩
  · rw [t2]; rfl
  · rw [t2]
    show fR_giveSeat_93 X = _
    unfold fR_giveSeat_93
    exact xgd_pos (by decide) _
theorem o2_9 {P : Nat → Bool} {n : Nat} (h : ¬ o2 (fN P n) = -1) : ∃ p, fN P n = some p ∧ p < n := by
  cases ho : fN P n with
  | none => rw [ho] at h; exact absurd rfl h
  | some p => exact ⟨p, rfl, (fN_some ho).1⟩
theorem seat_step {X Y : Mem} (h : Rel X Y) (hpl : Y 0 7 ≠ 0) {s c : Nat} (hs : s < 6) (hc : c < 40) (v : Int32) :
    ∃ v' X' Y', bE_seat_31 (nI s) (v, nI c, X) = some (.inr (v', nI (c + 1), X')) ∧ bM_seat_21 (nI s) (v, nI c, Y) = some (.inr (v', nI (c + 1), Y')) ∧ Rel X' Y' ∧ Y' 0 = Y 0 := by
  dsimp only [bE_seat_31, gE_seat_31, bM_seat_21, gM_seat_21]
  unfold fE_seat_80 fM_seat_112
  rw [if_neg (show ¬ (40 : Int32) ≤ nI c from nI_ltc hc (by decide)), if_neg (show ¬ (40 : Int32) ≤ nI c from nI_ltc hc (by decide)), xT_paperOf h hc hs, xM_paperOf Y hc, xbd_eq, xbd_eq]
  simp only [xlt_eq, nI_1]
  by_cases e1 : o2 (fN (pofP (Y 0 7) (Y 4) (Y 7) c s) 9) = -1
  · rw [if_pos e1, if_pos e1]
    exact ⟨v, X, Y, rfl, rfl, h, rfl⟩
  · rw [if_neg e1, if_neg e1]
    obtain ⟨p, ep, hp⟩ := o2_9 e1
    rw [ep]
    have hR := h
    obtain ⟨q, pa, hT, hP, hB, hS, hO, hW, h16⟩ := h
    have h4 := hT.2.2.2.1
    have hpo := rS1_po (hS.1 s hs) hc
    rw [seg_at _ hs] at hpo
    rw [xM_place hS.2 (fun s k hs hk => ((hS.1 s hs).1 k hk).1) hc hs, xbd_eq, xgd_pos (vi_ hc (by decide)), cl_ (show c < 100000 by omega), (h4 c hc).1]
    by_cases e2 : o2 (fN (fun k => decide (q s k = c + 1)) 144) = -1
    · rw [if_pos e2]
      rw [e2] at hpo
      obtain ⟨nb, hnb⟩ := nb_eq hB.1 hS hs hp
      show ∃ v' X' Y', xbd (fR_giveSeat (nI s) (nI c) (nI p) (Y 5 c) X) _ = _ ∧ xbd (fM_seatFor (nI s) (nI c) (nI p) Y) _ = _ ∧ _
      rw [xR_give hB.1 hB.2 h4 hS hs hc hnb hpo, xM_seatFor hB.1 hS hs hc hnb, xbd_eq]
      have hno : ∀ j, j < 144 → q s j ≠ c + 1 := by
        intro j hj
        cases hf : fN (fun k => decide (q s k = c + 1)) 144 with
        | none =>
          have := fN_none hf j hj
          simpa using this
        | some i => rw [hf] at e2; exact absurd e2 (nIm1 (by have := (fN_some hf).1; omega))
      cases ho : fN (okP q nb Y s c) 144 with
      | none =>
        dsimp only
        rw [xbd_eq]
        show ∃ v' X' Y', (if (0 : Int32) = 0 then _ else _) = _ ∧ (if (-1 : Int32) = -1 then _ else _) = _ ∧ _
        rw [if_pos rfl, if_pos rfl]
        unfold fM_seat_74 fM_seat_112
        show ∃ v' X' Y', _ ∧ (if (-1 : Int32) = -1 then _ else _) = _ ∧ _
        rw [if_pos rfl]
        simp only [xlt_eq, nI_1]
        exact ⟨_, X, Y, rfl, rfl, hR, rfl⟩
      | some k =>
        obtain ⟨hk, hok, -⟩ := fN_some ho
        have hq0 : q s k = 0 := by
          unfold okP okA at hok
          simp only [Bool.and_eq_true, decide_eq_true_eq] at hok
          exact hok.2.2.2.1
        dsimp only
        rw [xbd_eq]
        show ∃ v' X' Y', (if (1 : Int32) = 0 then _ else _) = _ ∧ (if nI k = -1 then _ else _) = _ ∧ _
        rw [if_neg n10, if_neg (nIm1 (by omega))]
        unfold fM_seat_74 fM_seat_112
        show ∃ v' X' Y', _ ∧ (if nI k = -1 then _ else xgd (vp_in (144 * nI s + nI k) 864) (xlt (up2 Y 17 (144 * nI s + nI k).toNatClampNeg _) _)) = _ ∧ _
        rw [if_neg (nIm1 (by omega)), ix144, cl_ (show 144 * s + k < 100000 by omega), xgd_pos (vi_ (show 144 * s + k < 864 by omega) (by decide))]
        simp only [xlt_eq, nI_1]
        show ∃ v' X' Y', _ ∧ xgd (vp_in (144 * nI s + nI k) 864) (some (Sum.inr (v, nI (c + 1), up2 (up2 Y 17 (144 * s + k) (nI (c + 1))) 18 (144 * nI s + nI k).toNatClampNeg (nI p)))) = _ ∧ _
        rw [ix144, cl_ (show 144 * s + k < 100000 by omega), xgd_pos (vi_ (show 144 * s + k < 864 by omega) (by decide))]
        refine ⟨v, _, _, rfl, rfl, ?_, rfl⟩
        refine Rel_S hR (fun j hj => by rw [up2_ne (by omega), up2_ne (by omega), up2_ne (by omega)]) (fun j h0 h1 h2 => by rw [up2_ne h2, up2_ne h1]) rfl (q' := un2 q s k (c + 1)) (pa' := un2 pa s k p) ⟨?_, ?_⟩ (fun e => absurd e hpl)
        · obtain ⟨s1, s2, s3⟩ := seg3b X (s := s) (c := c) (k := k) (u := nI c) (v := nI p) (w := nI k) hs
          rw [s1, s2, s3]
          intro t ht
          by_cases e : t = s
          · subst e
            rw [up2_same, up2_same, up2_same, un2_s, un2_s]
            exact rS1_give (hS.1 t hs) hk hq0 hc hno hp
          · rw [up2_ne e, up2_ne e, up2_ne e, un2_n e, un2_n e]; exact hS.1 t ht
        · rw [up2_ne (by decide), up2_same, up2_same, up2_ne (by decide)]
          exact rF_give hS.2 hk
    · rw [if_neg e2]
      have hg : fR_giveSeat (nI s) (nI c) (o2 (some p)) (Y 5 c) X = some (1, X) := by
        unfold fR_giveSeat
        rw [xgd_pos (vi_ hs (by decide)), xgd_pos (vi_ hc (by decide)), cl_ (show s < 100000 by omega), cl_ (show c < 100000 by omega), show (37 : Nat) + 1 + s = 38 + s by omega, hpo, if_neg e2]
        exact xgd_pos (by decide) _
      rw [hg, xbd_eq]
      show ∃ v' X' Y', (if (1 : Int32) = 0 then _ else _) = _ ∧ _
      rw [if_neg n10]
      exact ⟨v, X, Y, rfl, rfl, hR, rfl⟩
theorem sim_12 : Sm12 Rel := by
  intro X Y h a1
  have h7 := (Rel_qP h).1
  rcases oo_ix a1 (n := 6) (by decide) with h1 | ⟨s, hs, rfl⟩
  · refine Or.inr (Or.inl ⟨0, up2 Y 0 0 1, ?_, ?_, up2_at _ _ _ _, Rel_t h⟩)
    · unfold kE_seat; rw [eE_Session0 h1, xbd_eq, if_pos rfl]
    · unfold fM_seat; rw [eM_Session0 h1, xbd_eq, g0, xbd_eq, if_pos rfl]
  rcases h7.1 with e | e
  · refine Or.inr (Or.inr ⟨0, up2 Y 0 0 2, ?_, ?_, up2_at _ _ _ _, Rel_t h⟩)
    · unfold kE_seat; rw [eE_Session hs, xbd_eq, if_neg n10, h7.2.1, if_pos e]
    · unfold fM_seat; rw [eM_Session hs, xbd_eq, e, g10, xbd_eq, if_pos rfl]
  · have hpl : Y 0 7 ≠ 0 := by rw [e]; decide
    have hh := xlp_two (b1 := bE_seat_31 (nI s)) (b2 := bM_seat_21 (nI s)) (fun c st tt => ∃ v X' Y', st = (v, nI c, X') ∧ tt = (v, nI c, Y') ∧ Rel X' Y' ∧ Y' 0 = up2 Y 0 0 0 0) (fun r u => ∃ v X' Y', r = (v, nI 40, X') ∧ u = (v, nI 40, Y') ∧ Rel X' Y' ∧ Y' 0 = up2 Y 0 0 0 0) 40 ?_ ?_ (0, 0, X) (0, 0, up2 Y 0 0 0) ⟨0, X, up2 Y 0 0 0, rfl, rfl, Rel_t h, rfl⟩
    · obtain ⟨r, u, r1, r2, v, X', Y', rfl, rfl, r3, r4⟩ := hh
      refine Or.inl ⟨v, X', Y', ?_, ?_, by rw [r4]; exact up2_at _ _ _ _, r3⟩
      · unfold fE_seat; rw [eE_Session hs, xbd_eq, me1, xbd_eq, h7.2.1, if_neg hpl, r1, xbd_eq]; rfl
      · unfold fM_seat; rw [eM_Session hs, xbd_eq, e, g11, xbd_eq, if_neg n10, r2, xbd_eq]; rfl
    · rintro c st tt hc ⟨v, X', Y', rfl, rfl, r3, r4⟩
      obtain ⟨v', X2, Y2, a1, a2, a3, a4⟩ := seat_step r3 (by rw [r4]; exact hpl) hs hc v
      exact ⟨_, _, a1, a2, v', X2, Y2, rfl, rfl, a3, a4.trans r4⟩
    · rintro st tt ⟨v, X', Y', rfl, rfl, r3, r4⟩
      refine ⟨(v, nI 40, X'), (v, nI 40, Y'), ?_, ?_, v, X', Y', rfl, rfl, r3, r4⟩
      · dsimp only [bE_seat_31, gE_seat_31]; exact if_pos (Int32.le_refl (nI 40))
      · dsimp only [bM_seat_21, gM_seat_21]; exact if_pos (Int32.le_refl (nI 40))
