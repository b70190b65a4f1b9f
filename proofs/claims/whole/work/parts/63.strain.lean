/-! ===== strain ===== -/
theorem anyB_fN {P : Nat → Bool} {n : Nat} : anyB P n = (fN P n).isSome := by
  cases h : fN P n with
  | none =>
    have hz : anyB P n = false := Bool.eq_false_iff.mpr (fun e => by obtain ⟨i, h1, h2⟩ := anyB_t.mp e; rw [fN_none h i h1] at h2; cases h2)
    rw [hz]; rfl
  | some i => obtain ⟨h1, h2, -⟩ := fN_some h; rw [anyB_t.mpr ⟨i, h1, h2⟩]; rfl
def sS (pl : Int32) (y4 y7 : Nat → Int32) (c n : Nat) : Nat := sO (fun s => anyB (pofP pl y4 y7 c s) n) 6
theorem sS_lt (pl : Int32) (y4 y7 : Nat → Int32) (c n : Nat) : sS pl y4 y7 c n < 2 ^ 6 := sO_lt _ 6
theorem sS_bit (pl : Int32) (y4 y7 : Nat → Int32) (c n : Nat) (s : Nat) : (sS pl y4 y7 c n).testBit s = (decide (s < 6) && anyB (pofP pl y4 y7 c s) n) := sO_bit _ _ _
theorem xT_sess {X Y : Mem} (h : Rel X Y) {c : Nat} (hc : c < 40) : fT_sessionsOf (nI c) X = some (nI (sS (Y 0 7) (Y 4) (Y 7) c 9)) := by
  have h3 := (Rel_qT h).2.2.1
  have h7 := (Rel_qP h).1
  have hr : xlp (bT_sessionsOf_4 (nI c) X) (nI (sS (Y 0 7) (Y 4) (Y 7) c 0), 0) = some (nI (sS (Y 0 7) (Y 4) (Y 7) c 9), nI 9) := by
    refine run2 (n := 9) (fun i => nI (sS (Y 0 7) (Y 4) (Y 7) c i)) (fun i hi => ?_) ?_
    · dsimp only [bT_sessionsOf_4, gT_sessionsOf_4]
      unfold fT_sessionsOf_44
      rw [if_neg (show ¬ (9 : Int32) ≤ nI i from nI_ltc hi (by decide)), xgd_pos (vi_ hi (by decide)), cl_ (show i < 100000 by omega), xgd_pos (vi_ hc (by decide)), cl_ (show c < 100000 by omega), h3.1 c hc, xE_has (eY_lt _ _) (by omega), xbd_eq, eY_bit _ _ hi, xgd_pos (vi_ hi (by decide)), h7.2.2.2.1 i hi]
      simp only [xlt_eq, nI_1]
      have same : (∀ s, s < 6 → pofP (Y 0 7) (Y 4) (Y 7) c s i = false) → sS (Y 0 7) (Y 4) (Y 7) c (i + 1) = sS (Y 0 7) (Y 4) (Y 7) c i := fun hz => sO_ext (fun s hs => by
        show (anyB (pofP (Y 0 7) (Y 4) (Y 7) c s) i || pofP (Y 0 7) (Y 4) (Y 7) c s i) = _
        rw [hz s hs, Bool.or_false])
      by_cases e0 : Y 0 7 = 0
      · rw [if_pos e0, if_pos rfl, same (fun s hs => by unfold pofP; rw [e0, bq_0]; rfl)]
      · rw [if_neg e0]
        rcases h7.2.2.2.2 e0 i hi with e | ⟨t, ht, e⟩
        · rw [if_pos e, same (fun s hs => by unfold pofP; rw [e, decide_eq_false (fun e9 => nIm1 (show s < 2 ^ 31 by omega) e9.symm), Bool.and_false, Bool.and_false])]
        · rw [e, if_neg (nIm1 (by omega))]
          cases eb : bq (Y 4 (9 * c + i)) with
          | false => rw [if_pos (by decide), same (fun s hs => by unfold pofP; rw [eb, Bool.false_and, Bool.and_false])]
          | true =>
            rw [if_neg (by decide), sh_1 t (by omega), nI_or]
            congr 4
            refine bits_eq (k := 6) (Nat.or_lt_two_pow (sS_lt _ _ _ _ _) (Nat.pow_lt_pow_right (by decide) ht)) (sS_lt _ _ _ _ _) (fun s hs => ?_)
            rw [Nat.testBit_or, Nat.testBit_two_pow, sS_bit, sS_bit]
            show _ = (decide (s < 6) && (anyB (pofP (Y 0 7) (Y 4) (Y 7) c s) i || pofP (Y 0 7) (Y 4) (Y 7) c s i))
            rw [show pofP (Y 0 7) (Y 4) (Y 7) c s i = decide (t = s) by
              unfold pofP; rw [bq_t.mpr e0, eb, e]
              by_cases e5 : t = s
              · rw [e5]; simp
              · rw [decide_eq_false (fun e9 => e5 ((nI_eq (by omega) (by omega)).mp e9)), decide_eq_false e5]; rfl]
            simp [hs]
    · dsimp only [bT_sessionsOf_4, gT_sessionsOf_4]; exact if_pos (Int32.le_refl (nI 9))
  unfold fT_sessionsOf
  rw [show sS (Y 0 7) (Y 4) (Y 7) c 0 = 0 from sO_z (fun _ _ => rfl)] at hr
  rw [show ((0 : Int32), (0 : Int32)) = (nI 0, 0) from rfl, hr, xbd_eq]; rfl
def rowP (pl : Int32) (y4 y7 : Nat → Int32) (c : Nat) : Nat → Bool := fun s => anyB (pofP pl y4 y7 c s) 9 && anyB (pofP pl y4 y7 c (s + 1)) 9
theorem x_strain {X Y : Mem} (h : Rel X Y) : fE_strain X = some (nI (sm (fun c => cnt (rowP (Y 0 7) (Y 4) (Y 7) c) 5) 40)) := by
  have hr : xlp (bT_sessionsInARow_4 X) (0, 0) = some (nI (sm (fun c => cnt (rowP (Y 0 7) (Y 4) (Y 7) c) 5) 40), nI 40) := by
    refine run2 (n := 40) (fun i => nI (sm (fun c => cnt (rowP (Y 0 7) (Y 4) (Y 7) c) 5) i)) (fun i hi => ?_) ?_
    · dsimp only [bT_sessionsInARow_4, gT_sessionsInARow_4]
      have hlt := sS_lt (Y 0 7) (Y 4) (Y 7) i 9
      rw [if_neg (show ¬ (40 : Int32) ≤ nI i from nI_ltc hi (by decide)), xT_sess h hi, xbd_eq, pk_shrN (Nat.lt_trans hlt (by decide)) _ 1 (by decide), nI_and, xJ_bit (Nat.lt_of_le_of_lt Nat.and_le_left (Nat.lt_trans hlt (by decide))), xbd_eq, xlt_eq, xlt_eq, nI_add, nI_1]
      congr 4
      show _ = sm _ i + cnt (rowP (Y 0 7) (Y 4) (Y 7) i) 5
      congr 1
      unfold pop
      have hz : cnt (fun j => (sS (Y 0 7) (Y 4) (Y 7) i 9 &&& sS (Y 0 7) (Y 4) (Y 7) i 9 / 2 ^ 1).testBit (5 + j)) 5 = 0 := cnt_0 (fun j hj => by
        rw [Nat.testBit_and, Nat.testBit_div_two_pow, bit_hi hlt (show 6 ≤ 5 + j + 1 by omega), Bool.and_false])
      rw [show (10 : Nat) = 5 + 5 from rfl, cnt_add, hz, Nat.add_zero]
      refine cnt_ext (fun s hs => ?_)
      rw [Nat.testBit_and, Nat.testBit_div_two_pow, sS_bit, sS_bit]
      unfold rowP
      simp [show s < 6 by omega, show s + 1 < 6 by omega]
    · dsimp only [bT_sessionsInARow_4, gT_sessionsInARow_4]; exact if_pos (Int32.le_refl (nI 40))
  unfold fE_strain fT_sessionsInARow
  rw [hr, xbd_eq]; rfl
theorem m_strain (Y : Mem) : fM_strain Y = some (nI (sm (fun c => cnt (rowP (Y 0 7) (Y 4) (Y 7) c) 5) 40), up2 Y 0 0 0) := by
  have po : ∀ c s, c < 40 → (fM_paperOf (nI c) (nI s) (up2 Y 0 0 0) = some (o2 (fN (pofP (Y 0 7) (Y 4) (Y 7) c s) 9)) ∧ (o2 (fN (pofP (Y 0 7) (Y 4) (Y 7) c s) 9) = -1 ↔ anyB (pofP (Y 0 7) (Y 4) (Y 7) c s) 9 = false)) := fun c s hc => ⟨xM_paperOf (up2 Y 0 0 0) hc, by
    rw [anyB_fN, o2_m1 (n := 9) (by decide) (fun i e => (fN_some e).1)]
    cases fN (pofP (Y 0 7) (Y 4) (Y 7) c s) 9 with
    | none => simp
    | some i => simp⟩
  have inner : ∀ (c a : Nat), c < 40 → xlp (bM_strain_17 (nI c) (up2 Y 0 0 0)) (nI a, 0) = some (nI (a + cnt (rowP (Y 0 7) (Y 4) (Y 7) c) 5), nI 5) := by
    intro c a hc
    refine run2 (n := 5) (fun i => nI (a + cnt (rowP (Y 0 7) (Y 4) (Y 7) c) i)) (fun i hi => ?_) ?_
    · dsimp only [bM_strain_17, gM_strain_17]
      unfold fM_strain_50 fM_strain_51
      rw [if_neg (show ¬ (5 : Int32) ≤ nI i from nI_ltc hi (by decide)), (po c i hc).1, xbd_eq, nI_1 i, (po c (i + 1) hc).1, xbd_eq]
      simp only [xlt_eq, nI_1]
      show _ = some (Sum.inr (nI (a + (cnt (rowP (Y 0 7) (Y 4) (Y 7) c) i + (rowP (Y 0 7) (Y 4) (Y 7) c i).toNat)), _))
      unfold rowP
      cases e1 : anyB (pofP (Y 0 7) (Y 4) (Y 7) c i) 9 with
      | false => rw [if_pos ((po c i hc).2.mpr e1)]; rfl
      | true =>
        rw [if_neg (fun e => by rw [(po c i hc).2.mp e] at e1; cases e1)]
        cases e2 : anyB (pofP (Y 0 7) (Y 4) (Y 7) c (i + 1)) 9 with
        | false => rw [if_pos ((po c (i + 1) hc).2.mpr e2)]; rfl
        | true =>
          rw [if_neg (fun e => by rw [(po c (i + 1) hc).2.mp e] at e2; cases e2)]
          rfl
    · dsimp only [bM_strain_17, gM_strain_17]; exact if_pos (Int32.le_refl (nI 5))
  have hr : xlp (bM_strain_9 (up2 Y 0 0 0)) (0, 0) = some (nI (sm (fun c => cnt (rowP (Y 0 7) (Y 4) (Y 7) c) 5) 40), nI 40) := by
    refine run2 (n := 40) (fun i => nI (sm (fun c => cnt (rowP (Y 0 7) (Y 4) (Y 7) c) 5) i)) (fun i hi => ?_) ?_
    · dsimp only [bM_strain_9, gM_strain_9]
      rw [if_neg (show ¬ (40 : Int32) ≤ nI i from nI_ltc hi (by decide)), inner i _ hi, xbd_eq]
      unfold fM_strain_58
      rw [xlt_eq, nI_1]; rfl
    · dsimp only [bM_strain_9, gM_strain_9]; exact if_pos (Int32.le_refl (nI 40))
  unfold fM_strain
  rw [xlt_eq, hr, xbd_eq]; rfl
theorem sim_9 : Sm9 Rel := by
  intro X Y h
  exact ⟨_, _, x_strain h, m_strain Y, Rel_t h⟩
/-! ===== watcher ===== -/
theorem sim_19 : Sm19 Rel := by
  intro X Y h a1 a2 a3
  have no1 : kE_watcher_22 a1 a2 a3 X = some 1 := by unfold kE_watcher_22 kE_watcher_23; exact if_pos rfl
  have no2 : fM_watcher_23 a1 a2 a3 Y = some (0, up2 Y 0 0 1) := by
    unfold fM_watcher_23 fM_watcher_24; rw [g0, xbd_eq, if_pos rfl]
  rcases oo_ix a1 (n := 6) (by decide) with h1 | ⟨s, hs, rfl⟩
  · refine Or.inr ⟨0, up2 Y 0 0 1, ?_, ?_, up2_at _ _ _ _, Rel_t h⟩
    · unfold kE_watcher; rw [eE_Session0 h1, xbd_eq, if_pos rfl]; exact no1
    · unfold fM_watcher; rw [eM_Session0 h1, xbd_eq, if_pos rfl]; exact no2
  rcases oo_ix a2 (n := 4) (by decide) with h1 | ⟨r, hr, rfl⟩
  · refine Or.inr ⟨0, up2 Y 0 0 1, ?_, ?_, up2_at _ _ _ _, Rel_t h⟩
    · unfold kE_watcher; rw [eE_Session hs, xbd_eq, if_neg n10, eE_Room0 h1, xbd_eq, if_pos rfl]; exact no1
    · unfold fM_watcher; rw [eM_Session hs, xbd_eq, if_neg n10, eM_Room0 h1, xbd_eq, if_pos rfl]; exact no2
  by_cases h3 : a3 < 0
  · refine Or.inr ⟨0, up2 Y 0 0 1, ?_, ?_, up2_at _ _ _ _, Rel_t h⟩
    · unfold kE_watcher; rw [eE_Session hs, xbd_eq, if_neg n10, eE_Room hr, xbd_eq, if_neg n10, if_pos h3]; exact no1
    · unfold fM_watcher; rw [eM_Session hs, xbd_eq, if_neg n10, eM_Room hr, xbd_eq, if_neg n10, if_pos h3]; exact no2
  have hW : qW X Y := by obtain ⟨q, pa, hT, hP, hB, hS, hO, hW, h16⟩ := h; exact hW
  have g := hW.1 s r hs hr
  rw [seg_at _ hs] at g
  have key : ∃ w, fO_watcherAt (nI s) (nI r) a3 X = some w ∧ xbd (xlp (bM_watcher_39 (nI s) (nI r) a3 (up2 Y 0 0 0)) (0, 0)) (fun e39 => Sum.elim (fun r39 => some r39) (fun t39 => fM_watcher_84 (up2 Y 0 0 0)) e39) = some (w, up2 Y 0 0 0) := by
    have two : ∀ d i v, i + d = 10 → (∃ w, xlp (bO_watcherAt_6 (nI s) (nI r) a3 X) (v, nI i) = some (.inl w) ∧ xlp (bM_watcher_39 (nI s) (nI r) a3 (up2 Y 0 0 0)) (v, nI i) = some (.inl (w, up2 Y 0 0 0))) ∨ (∃ t u, xlp (bO_watcherAt_6 (nI s) (nI r) a3 X) (v, nI i) = some (.inr t) ∧ xlp (bM_watcher_39 (nI s) (nI r) a3 (up2 Y 0 0 0)) (v, nI i) = some (.inr u)) := by
      intro d
      induction d with
      | zero =>
        intro i v hi
        have e : i = 10 := by omega
        subst e
        refine Or.inr ⟨(v, nI 10), (v, nI 10), xlp_end ?_, xlp_end ?_⟩
        · dsimp only [bO_watcherAt_6, gO_watcherAt_6]; exact if_pos (Int32.le_refl (nI 10))
        · dsimp only [bM_watcher_39, gM_watcher_39]; exact if_pos (Int32.le_refl (nI 10))
      | succ d ih =>
        intro i v hi
        have hi10 : i < 10 := by omega
        have s1 : bO_watcherAt_6 (nI s) (nI r) a3 X (v, nI i) = if bq (Y 21 (40 * s + 10 * r + i)) = false then some (.inr (v, nI (i + 1))) else if v = a3 then some (.inl (.inl (nI i))) else some (.inr (v + 1, nI (i + 1))) := by
          dsimp only [bO_watcherAt_6, gO_watcherAt_6]
          unfold fO_watcherAt_41
          rw [if_neg (show ¬ (10 : Int32) ≤ nI i from nI_ltc hi10 (by decide)), xgd_pos (vi_ hs (by decide)), xgd_pos (vi_ hr (by decide)), cl_ (show s < 100000 by omega), cl_ (show r < 100000 by omega), show (47 : Nat) + 1 + s = 48 + s by omega, g, xE_has (Nat.lt_trans (wY_lt _ _ _) (by decide)) (by omega), xbd_eq, wY_bit _ _ _ hi10]
          simp only [xlt_eq, nI_1, bz_0]
        have s2 : bM_watcher_39 (nI s) (nI r) a3 (up2 Y 0 0 0) (v, nI i) = if bq (Y 21 (40 * s + 10 * r + i)) = false then some (.inr (v, nI (i + 1))) else if v = a3 then some (.inl (.inl (nI i, up2 Y 0 0 0))) else some (.inr (v + 1, nI (i + 1))) := by
          dsimp only [bM_watcher_39, gM_watcher_39]
          unfold fM_watcher_78
          rw [if_neg (show ¬ (10 : Int32) ≤ nI i from nI_ltc hi10 (by decide)), xlt_eq, ix40, xgd_pos (vi_ (show 40 * s + 10 * r + i < 240 by omega) (by decide)), cl_ (by omega)]
          simp only [xlt_eq, nI_1]
          show (if Y 21 (40 * s + 10 * r + i) = 0 then _ else _) = _
          by_cases e : Y 21 (40 * s + 10 * r + i) = 0
          · rw [if_pos e, if_pos (bq_f.mpr e)]
          · rw [if_neg e, if_neg (show ¬ bq (Y 21 (40 * s + 10 * r + i)) = false from fun e9 => e (bq_f.mp e9))]
        by_cases e : bq (Y 21 (40 * s + 10 * r + i)) = false
        · rw [if_pos e] at s1 s2
          rw [xlp_go s1, xlp_go s2]; exact ih (i + 1) v (by omega)
        · rw [if_neg e] at s1 s2
          by_cases e2 : v = a3
          · rw [if_pos e2] at s1 s2
            exact Or.inl ⟨nI i, xlp_end s1, xlp_end s2⟩
          · rw [if_neg e2] at s1 s2
            rw [xlp_go s1, xlp_go s2]; exact ih (i + 1) (v + 1) (by omega)
    unfold fO_watcherAt
    rcases two 10 0 0 (by decide) with ⟨w, t1, t2⟩ | ⟨t, u, t1, t2⟩
    · exact ⟨w, by rw [show ((0 : Int32), (0 : Int32)) = (0, nI 0) from rfl, t1, xbd_eq]; rfl, by rw [show ((0 : Int32), (0 : Int32)) = (0, nI 0) from rfl, t2, xbd_eq]; rfl⟩
    · exact ⟨-1, by rw [show ((0 : Int32), (0 : Int32)) = (0, nI 0) from rfl, t1, xbd_eq]; rfl, by rw [show ((0 : Int32), (0 : Int32)) = (0, nI 0) from rfl, t2, xbd_eq]; rfl⟩
  obtain ⟨w, w1, w2⟩ := key
  refine Or.inl ⟨w, up2 Y 0 0 0, ?_, ?_, up2_at _ _ _ _, Rel_t h⟩
  · unfold fE_watcher fE_watcher_23; rw [eE_Session hs, xbd_eq, if_neg n10, eE_Room hr, xbd_eq, if_neg n10, if_neg h3, me1, xbd_eq, w1, xbd_eq]
  · unfold fM_watcher fM_watcher_24; rw [eM_Session hs, xbd_eq, if_neg n10, eM_Room hr, xbd_eq, if_neg n10, if_neg h3, g11, xbd_eq, if_neg n10]; exact w2
