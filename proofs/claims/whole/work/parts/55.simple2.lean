/-! ===== enrol, own, fix, rule ===== -/
theorem up2_id {M : Mem} {k i : Nat} {v : Int32} (h : M k i = v) : up2 M k i v = M := by
  funext j n
  by_cases e : j = k ∧ n = i
  · rw [e.1, e.2, up2_at, h]
  · rw [up2_off e]
theorem ix9 (c p : Nat) : (9 : Int32) * nI c + nI p = nI (9 * c + p) := by
  show nI 9 * nI c + nI p = _
  rw [pk_mul, nI_add]
theorem eY_bit (y : Nat → Int32) (c : Nat) {p : Nat} (hp : p < 9) : (eY y c).testBit p = bq (y (9 * c + p)) := by
  unfold eY; rw [sO_bit]; simp [hp]
theorem eY_lt (y : Nat → Int32) (c : Nat) : eY y c < 2 ^ 31 := Nat.lt_of_lt_of_le (sO_lt _ 9) (by decide)
theorem eY_lt9 (y : Nat → Int32) (c : Nat) : eY y c < 2 ^ 9 := sO_lt _ 9
theorem eY_up {y : Nat → Int32} {c p : Nat} (z : Bool) (hp : p < 9) (c' : Nat) : eY (upd y (9 * c + p) (bz z)) c' = if c' = c then wit (eY y c) p z else eY y c' := by
  apply bits_eq (k := 9) (eY_lt9 _ _)
  · by_cases e : c' = c
    · rw [if_pos e]; exact wit_lt (eY_lt9 _ _) hp
    · rw [if_neg e]; exact eY_lt9 _ _
  · intro i hi
    rw [eY_bit _ _ hi]
    by_cases e : c' = c
    · subst e
      rw [if_pos rfl, wit_bit]
      by_cases e2 : i = p
      · subst e2; rw [if_pos rfl, pk_us, bq_bz]
      · rw [if_neg e2, pk_un (by omega), eY_bit _ _ hi]
    · rw [if_neg e, pk_un (by omega), eY_bit _ _ hi]
theorem r3_up {x y : Nat → Int32} (h : r3 x y) {c p : Nat} (hc : c < 40) (hp : p < 9) (z : Bool) : r3 (upd x c (nI (wit (eY y c) p z))) (upd y (9 * c + p) (bz z)) := by
  refine ⟨fun c' hc' => ?_, fun k hk => ?_⟩
  · rw [eY_up z hp]
    by_cases e : c' = c
    · subst e; rw [pk_us, if_pos rfl]
    · rw [pk_un e, if_neg e]; exact h.1 c' hc'
  · by_cases e : k = 9 * c + p
    · subst e; rw [pk_us]; exact isB_bz z
    · rw [pk_un e]; exact h.2 k hk
theorem sim_2 : Sm2 Rel := by
  intro X Y h a1 a2 a3
  rw [zb_bz]
  generalize (!decide (a3 = 0)) = z
  have bad : (fE_isCandidate a1 = some 0 ∧ fM_isCandidate a1 = some 0) ∨ (fE_isCandidate a1 = some 1 ∧ fM_isCandidate a1 = some 1 ∧ fE_isPaper a2 = some 0 ∧ fM_isPaper a2 = some 0) ∨ (∃ c p, c < 40 ∧ p < 9 ∧ a1 = nI c ∧ a2 = nI p) := by
    rcases oo_ix a1 (n := 40) (by decide) with h1 | ⟨c, hc, rfl⟩
    · exact Or.inl ⟨eE_Candidate0 h1, eM_Candidate0 h1⟩
    · rcases oo_ix a2 (n := 9) (by decide) with h2 | ⟨p, hp, rfl⟩
      · exact Or.inr (Or.inl ⟨eE_Candidate hc, eM_Candidate hc, eE_Paper0 h2, eM_Paper0 h2⟩)
      · exact Or.inr (Or.inr ⟨c, p, hc, hp, rfl, rfl⟩)
  rcases bad with ⟨b1, b2⟩ | ⟨b1, b2, b3, b4⟩ | ⟨c, p, hc, hp, rfl, rfl⟩
  · refine Or.inr ⟨0, up2 Y 0 0 1, ?_, ?_, up2_at _ _ _ _, Rel_t h⟩
    · unfold kE_enrol kE_enrol_18 kE_enrol_19; rw [b1, xbd_eq, if_pos rfl]; exact if_pos rfl
    · unfold fM_enrol fM_enrol_19 fM_enrol_20; rw [b2, xbd_eq, if_pos rfl, g0, xbd_eq, if_pos rfl]; exact xgd_pos (by decide) _
  · refine Or.inr ⟨0, up2 Y 0 0 1, ?_, ?_, up2_at _ _ _ _, Rel_t h⟩
    · unfold kE_enrol kE_enrol_18 kE_enrol_19; rw [b1, xbd_eq, if_neg n10, b3, xbd_eq, if_pos rfl]; exact if_pos rfl
    · unfold fM_enrol fM_enrol_19 fM_enrol_20; rw [b2, xbd_eq, if_neg n10, b4, xbd_eq, if_pos rfl, g0, xbd_eq, if_pos rfl]; exact xgd_pos (by decide) _
  · have hT := Rel_qT h
    have h3 := hT.2.2.1
    have hb := isB_bq (h3.2 (9 * c + p) (by omega))
    have hx : vp_in (nI (9 * c + p)) 360 := vi_ (by omega) (by decide)
    have ecl : (nI (9 * c + p)).toNatClampNeg = 9 * c + p := cl_ (by omega)
    by_cases e : bq (Y 4 (9 * c + p)) = z
    · refine Or.inl ⟨0, X, up2 (up2 Y 0 0 0) 4 (9 * c + p) (bz z), ?_, ?_, rfl, ?_⟩
      · unfold fE_enrol fE_enrol_19
        rw [eE_Candidate hc, xbd_eq, if_neg n10, eE_Paper hp, xbd_eq, if_neg n10, me1, xbd_eq, xgd_pos (vi_ hc (by decide)), xlt_eq, cl_ (by omega), h3.1 c hc, xE_has (eY_lt _ _) (by omega), xbd_eq, eY_bit _ _ hp, if_pos (by rw [e])]
        exact xgd_pos (by decide) _
      · unfold fM_enrol fM_enrol_20 fM_enrol_49 fM_enrol_72
        rw [eM_Candidate hc, xbd_eq, if_neg n10, eM_Paper hp, xbd_eq, if_neg n10, g11, xbd_eq, if_neg n10]
        simp only [xlt_eq, ix9, ecl, bz_nar]
        rw [xgd_pos hx, if_pos (show up2 Y 0 0 0 4 (9 * c + p) = bz z by rw [up2_ne (by decide), hb, e]), xgd_pos hx, if_pos trivial]
        exact xgd_pos (by decide) _
      · rw [up2_id (show up2 Y 0 0 0 4 (9 * c + p) = bz z by rw [up2_ne (by decide), hb, e])]
        exact Rel_t h
    · obtain ⟨X', d1, d2⟩ := drop_ok h
      have hT' := Rel_qT d2
      refine Or.inl ⟨1, up2 X' 4 c (nI (wit (eY (Y 4) c) p z)), forg (up2 (up2 Y 0 0 0) 4 (9 * c + p) (bz z)), ?_, ?_, rfl, ?_⟩
      · unfold fE_enrol fE_enrol_19
        rw [eE_Candidate hc, xbd_eq, if_neg n10, eE_Paper hp, xbd_eq, if_neg n10, me1, xbd_eq, xgd_pos (vi_ hc (by decide)), xlt_eq, cl_ (by omega), h3.1 c hc, xE_has (eY_lt _ _) (by omega), xbd_eq, eY_bit _ _ hp, if_neg (fun e9 => e (bz_inj.mp e9)), d1, xbd_eq, xE_with (eY_lt _ _) (by omega), xbd_eq, xgd_pos (vi_ hc (by decide)), xlt_eq]
        exact xgd_pos (by decide) _
      · unfold fM_enrol fM_enrol_20 fM_enrol_49 fM_enrol_72
        rw [eM_Candidate hc, xbd_eq, if_neg n10, eM_Paper hp, xbd_eq, if_neg n10, g11, xbd_eq, if_neg n10]
        simp only [xlt_eq, ix9, ecl, bz_nar]
        rw [xgd_pos hx, if_neg (show ¬ up2 Y 0 0 0 4 (9 * c + p) = bz z by rw [up2_ne (by decide), hb]; exact fun e9 => e (bz_inj.mp e9)), xgd_pos hx, if_neg n10, xM_forget, xbd_eq]
        exact xgd_pos (by decide) _
      · rw [forg_up (by decide) (by decide) (fun h => absurd h.1 (by decide)), forg_up (by decide) (by decide) (by decide)]
        refine Rel_T d2 (fun j hj => up2_ne (by omega)) (up2_ne (by decide)) (fun j hj => by rw [up2_ne (by omega), up2_ne (by omega)]) rfl ⟨hT'.1, hT'.2.1, ?_, hT'.2.2.2⟩
        rw [up2_same, up2_same, up2_ne (by decide)]
        exact r3_up hT'.2.2.1 hc hp z
theorem sim_5 : Sm5 Rel := by
  intro X Y h a1 a2
  have bad : (fE_isPaper a1 = some 0 ∧ fM_isPaper a1 = some 0) ∨ (¬ a2 = -1 ∧ fE_isPaper a1 = some 1 ∧ fM_isPaper a1 = some 1 ∧ fE_isSession a2 = some 0 ∧ fM_isSession a2 = some 0) ∨ (∃ p, p < 9 ∧ a1 = nI p ∧ (a2 = -1 ∨ ∃ s, s < 6 ∧ a2 = nI s)) := by
    rcases oo_ix a1 (n := 9) (by decide) with h1 | ⟨p, hp, rfl⟩
    · exact Or.inl ⟨eE_Paper0 h1, eM_Paper0 h1⟩
    · by_cases e : a2 = -1
      · exact Or.inr (Or.inr ⟨p, hp, rfl, Or.inl e⟩)
      · rcases oo_ix a2 (n := 6) (by decide) with h2 | ⟨s, hs, rfl⟩
        · exact Or.inr (Or.inl ⟨e, eE_Paper hp, eM_Paper hp, eE_Session0 h2, eM_Session0 h2⟩)
        · exact Or.inr (Or.inr ⟨p, hp, rfl, Or.inr ⟨s, hs, rfl⟩⟩)
  rcases bad with ⟨b1, b2⟩ | ⟨b0, b1, b2, b3, b4⟩ | ⟨p, hp, rfl, h2⟩
  · refine Or.inr ⟨0, up2 Y 0 0 1, ?_, ?_, up2_at _ _ _ _, Rel_t h⟩
    · unfold kE_fix kE_fix_23 kE_fix_24; rw [b1, xbd_eq, if_pos rfl]; exact if_pos rfl
    · unfold fM_fix fM_fix_24 fM_fix_25; rw [b2, xbd_eq, if_pos rfl, g0, xbd_eq, if_pos rfl]
  · refine Or.inr ⟨0, up2 Y 0 0 1, ?_, ?_, up2_at _ _ _ _, Rel_t h⟩
    · unfold kE_fix kE_fix_23 kE_fix_24; rw [b1, xbd_eq, if_neg n10, if_neg b0, b3, xbd_eq, if_pos rfl]; exact if_pos rfl
    · unfold fM_fix fM_fix_24 fM_fix_25; rw [b2, xbd_eq, if_neg n10, if_neg b0, b4, xbd_eq, if_pos rfl, g0, xbd_eq, if_pos rfl]
  · obtain ⟨X', d1, d2⟩ := drop_ok h
    have hT := Rel_qT d2
    have h6 := hT.2.2.2.2.2
    have key1 : fE_fix (nI p) a2 X = fE_fix_24 (nI p) a2 1 X := by
      unfold fE_fix; rw [eE_Paper hp, xbd_eq, if_neg n10]
      rcases h2 with e | ⟨s, hs, e⟩
      · rw [if_pos e]; rfl
      · rw [e, if_neg (nIm1 (by omega)), eE_Session hs, xbd_eq, if_neg n10]; rfl
    have key2 : fM_fix (nI p) a2 Y = fM_fix_25 (nI p) a2 1 Y := by
      unfold fM_fix; rw [eM_Paper hp, xbd_eq, if_neg n10]
      rcases h2 with e | ⟨s, hs, e⟩
      · rw [if_pos e]; rfl
      · rw [e, if_neg (nIm1 (by omega)), eM_Session hs, xbd_eq, if_neg n10]; rfl
    refine Or.inl ⟨X' 10 p, up2 X' 10 p a2, forg (up2 (up2 Y 0 0 0) 3 p a2), ?_, ?_, rfl, ?_⟩
    · rw [key1]; unfold fE_fix_24
      rw [me1, xbd_eq, d1, xbd_eq, xgd_pos (vi_ hp (by decide)), xlt_eq, xgd_pos (vi_ hp (by decide)), xlt_eq, cl_ (by omega)]
    · rw [key2]; unfold fM_fix_25
      rw [g11, xbd_eq, if_neg n10, xgd_pos (vi_ hp (by decide)), xlt_eq, xgd_pos (vi_ hp (by decide)), xlt_eq, cl_ (by omega), xM_forget, xbd_eq, (h6 p hp).1]
      rfl
    · rw [forg_up (by decide) (by decide) (fun h => absurd h.1 (by decide)), forg_up (by decide) (by decide) (by decide)]
      refine Rel_T d2 (fun j hj => up2_ne (by omega)) (up2_ne (by decide)) (fun j hj => by rw [up2_ne (by omega), up2_ne (by omega)]) rfl ⟨hT.1, hT.2.1, hT.2.2.1, hT.2.2.2.1, hT.2.2.2.2.1, fun j hj => ?_⟩
      rw [up2_same, up2_same, up2_ne (by decide)]
      by_cases e : j = p
      · subst e; rw [pk_us, pk_us]; exact ⟨rfl, h2⟩
      · rw [pk_un e, pk_un e]; exact h6 j hj
theorem oY_bit (y : Nat → Int32) (c : Nat) {p : Nat} (hp : p < 9) : (oY y c).testBit p = bq (y (9 * c + p)) := eY_bit y c hp
theorem oY_lt (y : Nat → Int32) (c : Nat) : oY y c < 2 ^ 31 := eY_lt y c
theorem sim_17 : Sm17 Rel := by
  intro X Y h a1 a2 a3
  rw [zb_bz]
  generalize (!decide (a3 = 0)) = z
  have bad : (fE_isInvigilator a1 = some 0 ∧ fM_isInvigilator a1 = some 0) ∨ (fE_isInvigilator a1 = some 1 ∧ fM_isInvigilator a1 = some 1 ∧ fE_isPaper a2 = some 0 ∧ fM_isPaper a2 = some 0) ∨ (∃ c p, c < 10 ∧ p < 9 ∧ a1 = nI c ∧ a2 = nI p) := by
    rcases oo_ix a1 (n := 10) (by decide) with h1 | ⟨c, hc, rfl⟩
    · exact Or.inl ⟨eE_Invigilator0 h1, eM_Invigilator0 h1⟩
    · rcases oo_ix a2 (n := 9) (by decide) with h2 | ⟨p, hp, rfl⟩
      · exact Or.inr (Or.inl ⟨eE_Invigilator hc, eM_Invigilator hc, eE_Paper0 h2, eM_Paper0 h2⟩)
      · exact Or.inr (Or.inr ⟨c, p, hc, hp, rfl, rfl⟩)
  rcases bad with ⟨b1, b2⟩ | ⟨b1, b2, b3, b4⟩ | ⟨c, p, hc, hp, rfl, rfl⟩
  · refine Or.inr ⟨0, up2 Y 0 0 1, ?_, ?_, up2_at _ _ _ _, Rel_t h⟩
    · unfold kE_own kE_own_18 kE_own_19; rw [b1, xbd_eq, if_pos rfl]; exact if_pos rfl
    · unfold fM_own fM_own_19 fM_own_20; rw [b2, xbd_eq, if_pos rfl, g0, xbd_eq, if_pos rfl]; exact xgd_pos (by decide) _
  · refine Or.inr ⟨0, up2 Y 0 0 1, ?_, ?_, up2_at _ _ _ _, Rel_t h⟩
    · unfold kE_own kE_own_18 kE_own_19; rw [b1, xbd_eq, if_neg n10, b3, xbd_eq, if_pos rfl]; exact if_pos rfl
    · unfold fM_own fM_own_19 fM_own_20; rw [b2, xbd_eq, if_neg n10, b4, xbd_eq, if_pos rfl, g0, xbd_eq, if_pos rfl]; exact xgd_pos (by decide) _
  · have hO := Rel_qO h
    have h3 := hO.2
    have hb := isB_bq (h3.2 (9 * c + p) (by omega))
    have hx : vp_in (nI (9 * c + p)) 90 := vi_ (by omega) (by decide)
    have ecl : (nI (9 * c + p)).toNatClampNeg = 9 * c + p := cl_ (by omega)
    refine Or.inl ⟨if bq (Y 20 (9 * c + p)) = z then 0 else 1, up2 X 46 c (nI (wit (oY (Y 20) c) p z)), up2 (up2 Y 0 0 0) 20 (9 * c + p) (bz z), ?_, ?_, rfl, ?_⟩
    · unfold fE_own fE_own_19 fE_own_64
      rw [eE_Invigilator hc, xbd_eq, if_neg n10, eE_Paper hp, xbd_eq, if_neg n10, me1, xbd_eq, xgd_pos (vi_ hc (by decide)), xlt_eq, cl_ (by omega), h3.1 c hc, xE_with (oY_lt _ _) (by omega), xbd_eq, xgd_pos (vi_ hc (by decide)), xlt_eq, xE_has (oY_lt _ _) (by omega), xbd_eq, oY_bit _ _ hp]
      by_cases e : bq (Y 20 (9 * c + p)) = z
      · rw [if_pos (by rw [e]), if_pos e]; exact xgd_pos (by decide) _
      · rw [if_neg (fun e9 => e (bz_inj.mp e9)), if_neg e]; exact xgd_pos (by decide) _
    · unfold fM_own fM_own_20
      rw [eM_Invigilator hc, xbd_eq, if_neg n10, eM_Paper hp, xbd_eq, if_neg n10, g11, xbd_eq, if_neg n10]
      simp only [xlt_eq, ix9, ecl, bz_nar]
      rw [xgd_pos hx]
      have e7 : up2 Y 0 0 0 20 (9 * c + p) = bz (bq (Y 20 (9 * c + p))) := by rw [up2_ne (by decide)]; exact hb
      rw [e7]
      unfold fM_own_49
      simp only [xlt_eq, ix9, ecl, bz_nar]
      by_cases e : bq (Y 20 (9 * c + p)) = z
      · rw [if_pos (by rw [e]), if_pos e, xgd_pos hx]; exact xgd_pos (by decide) _
      · rw [if_neg (fun e9 => e (bz_inj.mp e9)), if_neg e, xgd_pos hx]; exact xgd_pos (by decide) _
    · refine Rel_O h (fun j h1 h2 => up2_ne (by omega)) (fun j h0 h1 h2 => by rw [up2_ne (by omega), up2_ne (by omega)]) rfl ⟨hO.1, ?_⟩
      rw [up2_same, up2_same, up2_ne (by decide)]
      refine ⟨fun c' hc' => ?_, fun k hk => ?_⟩
      · show _ = nI (eY _ _)
        rw [eY_up z hp]
        by_cases e : c' = c
        · subst e; rw [pk_us, if_pos rfl]; rfl
        · rw [pk_un e, if_neg e]; exact h3.1 c' hc'
      · by_cases e : k = 9 * c + p
        · subst e; rw [pk_us]; exact isB_bz z
        · rw [pk_un e]; exact h3.2 k hk
