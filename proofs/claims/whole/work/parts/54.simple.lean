/-! ===== paper, session, enrol, extra, rule, fix, most, own, planned ===== -/
theorem forg_up {Y : Mem} {k i : Nat} {v : Int32} (h1 : k ≠ 17) (h2 : k ≠ 21) (h3 : ¬ (k = 0 ∧ i = 7)) : forg (up2 Y k i v) = up2 (forg Y) k i v := by
  funext j n
  unfold forg upA up2 upd
  by_cases e1 : j = 21
  · subst e1; simp [Ne.symm h2]
  · by_cases e2 : j = 17
    · subst e2; simp [Ne.symm h1]
    · by_cases e3 : j = 0
      · subst e3
        by_cases ek : k = 0
        · subst ek
          by_cases en : n = 7
          · subst en; simp [show ¬ 7 = i from fun e => h3 ⟨rfl, e.symm⟩]
          · simp [en]
        · simp [Ne.symm ek]
      · simp [e1, e2, e3]
theorem n10 : ¬ (1 : Int32) = 0 := by decide
theorem Rel_T {X X' Y Y' : Mem} (h : Rel X Y) (hX : ∀ j, 11 ≤ j → X' j = X j) (hX1 : X' 1 = X 1) (hY : ∀ j, 7 ≤ j → Y' j = Y j) (h0 : Y' 0 7 = Y 0 7) (hT' : qT X' Y') : Rel X' Y' := by
  obtain ⟨q, pa, hT, hP, hB, hS, hO, hW, h16⟩ := h
  refine ⟨q, pa, hT', qP_c (fun j hj => ?_) h0 (hY 7 (by decide)) hP, qB_c (fun j h1 h2 => hX j (by omega)) (fun j h1 h2 => hY j (by omega)) hB, qS_c (fun j h1 h2 => hX j (by omega)) (hY 17 (by decide)) (hY 18 (by decide)) hS, qO_c (hX 45 (by decide)) (hX 46 (by decide)) (hY 19 (by decide)) (hY 20 (by decide)) hO, qW_c (fun j h1 h2 => hX j (by omega)) (hY 21 (by decide)) hW, by rw [h0, hY 21 (by decide)]; exact h16⟩
  rcases hj with rfl | rfl | rfl | rfl | rfl
  · exact hX1
  all_goals exact hX _ (by decide)
theorem Rel_O {X X' Y Y' : Mem} (h : Rel X Y) (hX : ∀ j, j ≠ 45 → j ≠ 46 → X' j = X j) (hY : ∀ j, j ≠ 0 → j ≠ 19 → j ≠ 20 → Y' j = Y j) (h0 : Y' 0 7 = Y 0 7) (hO' : qO X' Y') : Rel X' Y' := by
  obtain ⟨q, pa, hT, hP, hB, hS, hO, hW, h16⟩ := h
  exact ⟨q, pa, qT_c (fun j h1 h2 => hX j (by omega) (by omega)) (fun j h1 h2 => hY j (by omega) (by omega) (by omega)) hT, qP_c (fun j hj => hX j (by omega) (by omega)) h0 (hY 7 (by decide) (by decide) (by decide)) hP, qB_c (fun j h1 h2 => hX j (by omega) (by omega)) (fun j h1 h2 => hY j (by omega) (by omega) (by omega)) hB, qS_c (fun j h1 h2 => hX j (by omega) (by omega)) (hY 17 (by decide) (by decide) (by decide)) (hY 18 (by decide) (by decide) (by decide)) hS, hO', qW_c (fun j h1 h2 => hX j (by omega) (by omega)) (hY 21 (by decide) (by decide) (by decide)) hW, by rw [h0, hY 21 (by decide) (by decide) (by decide)]; exact h16⟩
theorem Rel_qT {X Y : Mem} (h : Rel X Y) : qT X Y := by obtain ⟨q, pa, hT, -⟩ := h; exact hT
theorem Rel_qP {X Y : Mem} (h : Rel X Y) : qP X Y := by obtain ⟨q, pa, -, hP, -⟩ := h; exact hP
theorem Rel_qB {X Y : Mem} (h : Rel X Y) : qB X Y := by obtain ⟨q, pa, -, -, hB, -⟩ := h; exact hB
theorem Rel_qO {X Y : Mem} (h : Rel X Y) : qO X Y := by obtain ⟨q, pa, -, -, -, -, hO, -⟩ := h; exact hO
theorem wM_tot (x y : Int32) : ∃ w, fM_within x 0 y = some w := by
  unfold fM_within
  by_cases h0 : x < 0
  · exact ⟨0, by rw [if_pos h0]; exact xgd_pos (Or.inl rfl) _⟩
  · by_cases h1 : y < x
    · exact ⟨0, by rw [if_neg h0, if_pos h1]; exact xgd_pos (Or.inl rfl) _⟩
    · exact ⟨1, by rw [if_neg h0, if_neg h1]; exact xgd_pos (Or.inr rfl) _⟩
theorem cl_ {j : Nat} (h : j < 100000) : (nI j).toNatClampNeg = j := nI_clamp (by omega)
theorem vi_ {j n : Nat} (h : j < n) (hn : n < 100000) : vp_in (nI j) n := vi_n h (by omega)
theorem sim_0 : Sm0 Rel := by
  intro X Y h a1 a2
  rcases oo_ix a1 (n := 9) (by decide) with h1 | ⟨p, hp, rfl⟩
  · obtain ⟨w, hw⟩ := wM_tot a2 300
    refine Or.inr (Or.inl ⟨0, up2 Y 0 0 1, ?_, ?_, up2_at _ _ _ _, Rel_t h⟩)
    · unfold kE_paper; rw [eE_Paper0 h1, xbd_eq, if_pos rfl]
    · unfold fM_paper; rw [eM_Paper0 h1, xbd_eq, hw, xbd_eq, g0, xbd_eq, if_pos rfl]
  · rcases uu_ix a2 (n := 300) (by decide) with h2 | ⟨v, hv, rfl⟩
    · refine Or.inr (Or.inr ⟨0, up2 Y 0 0 2, ?_, ?_, up2_at _ _ _ _, Rel_t h⟩)
      · unfold kE_paper; rw [eE_Paper hp, xbd_eq, if_neg (by decide), show fE_isUpTo a2 300 = some 0 from uE_out h2, xbd_eq, if_pos rfl]
      · unfold fM_paper; rw [eM_Paper hp, xbd_eq, show fM_within a2 0 300 = some 0 from wM_out h2, xbd_eq, g10, xbd_eq, if_pos rfl]
    · obtain ⟨X', d1, d2⟩ := drop_ok h
      have hT := Rel_qT d2
      refine Or.inl ⟨X' 2 p, up2 X' 2 p (nI v), forg (up2 (up2 Y 0 0 0) 1 p (nI v)), ?_, ?_, rfl, ?_⟩
      · unfold fE_paper
        rw [eE_Paper hp, xbd_eq, me1, xbd_eq, show fE_isUpTo (nI v) 300 = some 1 from uE_in hv (by decide), xbd_eq, ma1, xbd_eq, d1, xbd_eq, xgd_pos (vi_ hp (by decide)), xlt_eq, xgd_pos (vi_ hp (by decide)), xlt_eq, cl_ (by omega)]
      · unfold fM_paper
        rw [eM_Paper hp, xbd_eq, show fM_within (nI v) 0 300 = some 1 from wM_in hv (by decide), xbd_eq, g11, xbd_eq, if_neg n10, xgd_pos (vi_ hp (by decide)), xlt_eq, xgd_pos (vi_ hp (by decide)), xlt_eq, cl_ (by omega), xM_forget, xbd_eq, (hT.1 p hp).1]
        rfl
      · rw [forg_up (by decide) (by decide) (fun h => absurd h.1 (by decide)), forg_up (by decide) (by decide) (by decide)]
        refine Rel_T d2 (fun j hj => up2_ne (by omega)) (up2_ne (by decide)) (fun j hj => by rw [up2_ne (by omega), up2_ne (by omega)]) rfl ⟨fun j hj => ?_, hT.2⟩
        rw [up2_same, up2_same, up2_ne (by decide)]
        by_cases e : j = p
        · subst e; rw [pk_us, pk_us]; exact ⟨rfl, v, hv, rfl⟩
        · rw [pk_un e, pk_un e]; exact hT.1 j hj
theorem sim_1 : Sm1 Rel := by
  intro X Y h a1 a2
  rcases oo_ix a1 (n := 6) (by decide) with h1 | ⟨p, hp, rfl⟩
  · obtain ⟨w, hw⟩ := wM_tot a2 300
    refine Or.inr (Or.inl ⟨0, up2 Y 0 0 1, ?_, ?_, up2_at _ _ _ _, Rel_t h⟩)
    · unfold kE_session; rw [eE_Session0 h1, xbd_eq, if_pos rfl]
    · unfold fM_session; rw [eM_Session0 h1, xbd_eq, hw, xbd_eq, g0, xbd_eq, if_pos rfl]
  · rcases uu_ix a2 (n := 300) (by decide) with h2 | ⟨v, hv, rfl⟩
    · refine Or.inr (Or.inr ⟨0, up2 Y 0 0 2, ?_, ?_, up2_at _ _ _ _, Rel_t h⟩)
      · unfold kE_session; rw [eE_Session hp, xbd_eq, if_neg (by decide), show fE_isUpTo a2 300 = some 0 from uE_out h2, xbd_eq, if_pos rfl]
      · unfold fM_session; rw [eM_Session hp, xbd_eq, show fM_within a2 0 300 = some 0 from wM_out h2, xbd_eq, g10, xbd_eq, if_pos rfl]
    · obtain ⟨X', d1, d2⟩ := drop_ok h
      have hT := Rel_qT d2
      refine Or.inl ⟨X' 3 p, up2 X' 3 p (nI v), forg (up2 (up2 Y 0 0 0) 2 p (nI v)), ?_, ?_, rfl, ?_⟩
      · unfold fE_session
        rw [eE_Session hp, xbd_eq, me1, xbd_eq, show fE_isUpTo (nI v) 300 = some 1 from uE_in hv (by decide), xbd_eq, ma1, xbd_eq, d1, xbd_eq, xgd_pos (vi_ hp (by decide)), xlt_eq, xgd_pos (vi_ hp (by decide)), xlt_eq, cl_ (by omega)]
      · unfold fM_session
        rw [eM_Session hp, xbd_eq, show fM_within (nI v) 0 300 = some 1 from wM_in hv (by decide), xbd_eq, g11, xbd_eq, if_neg n10, xgd_pos (vi_ hp (by decide)), xlt_eq, xgd_pos (vi_ hp (by decide)), xlt_eq, cl_ (by omega), xM_forget, xbd_eq, (hT.2.1 p hp).1]
        rfl
      · rw [forg_up (by decide) (by decide) (fun h => absurd h.1 (by decide)), forg_up (by decide) (by decide) (by decide)]
        refine Rel_T d2 (fun j hj => up2_ne (by omega)) (up2_ne (by decide)) (fun j hj => by rw [up2_ne (by omega), up2_ne (by omega)]) rfl ⟨hT.1, fun j hj => ?_, hT.2.2⟩
        rw [up2_same, up2_same, up2_ne (by decide)]
        by_cases e : j = p
        · subst e; rw [pk_us, pk_us]; exact ⟨rfl, v, hv, rfl⟩
        · rw [pk_un e, pk_un e]; exact hT.2.1 j hj
theorem sim_3 : Sm3 Rel := by
  intro X Y h a1 a2
  rcases oo_ix a1 (n := 40) (by decide) with h1 | ⟨p, hp, rfl⟩
  · refine Or.inr ⟨0, up2 Y 0 0 1, ?_, ?_, up2_at _ _ _ _, Rel_t h⟩
    · unfold kE_extra; rw [eE_Candidate0 h1, xbd_eq, if_pos rfl]
    · unfold fM_extra; rw [eM_Candidate0 h1, xbd_eq, g0, xbd_eq, if_pos rfl]; exact xgd_pos (Or.inl rfl) _
  · rw [zb_bz]
    generalize hz : (!decide (a2 = 0)) = z
    have hT := Rel_qT h
    have h5 := (hT.2.2.2.1 p hp).1
    refine Or.inl ⟨if Y 5 p = bz z then 0 else 1, up2 X 5 p (bz z), up2 (up2 Y 0 0 0) 5 p (bz z), ?_, ?_, rfl, ?_⟩
    · unfold fE_extra fE_extra_25
      rw [eE_Candidate hp, xbd_eq, me1, xbd_eq, xgd_pos (vi_ hp (by decide)), cl_ (by omega), h5, bz_nar]
      by_cases e : Y 5 p = bz z
      · rw [if_pos e, if_pos e, xgd_pos (vi_ hp (by decide)), xlt_eq]; exact xgd_pos (Or.inl rfl) _
      · rw [if_neg e, if_neg e, xgd_pos (vi_ hp (by decide)), xlt_eq]; exact xgd_pos (Or.inr rfl) _
    · unfold fM_extra fM_extra_29
      rw [eM_Candidate hp, xbd_eq, g11, xbd_eq, if_neg n10, xgd_pos (vi_ hp (by decide)), cl_ (by omega), bz_nar]
      show (if up2 Y 0 0 0 5 p = bz z then _ else _) = _
      rw [show up2 Y 0 0 0 5 p = Y 5 p from rfl]
      by_cases e : Y 5 p = bz z
      · rw [if_pos e, if_pos e, xgd_pos (vi_ hp (by decide)), xlt_eq]; exact xgd_pos (Or.inl rfl) _
      · rw [if_neg e, if_neg e, xgd_pos (vi_ hp (by decide)), xlt_eq]; exact xgd_pos (Or.inr rfl) _
    · refine Rel_T h (fun j hj => up2_ne (by omega)) (up2_ne (by decide)) (fun j hj => by rw [up2_ne (by omega), up2_ne (by omega)]) rfl ⟨hT.1, hT.2.1, hT.2.2.1, fun j hj => ?_, hT.2.2.2.2⟩
      rw [up2_same, up2_same, up2_ne (by decide)]
      by_cases e : j = p
      · subst e; rw [pk_us, pk_us]; exact ⟨rfl, isB_bz z⟩
      · rw [pk_un e, pk_un e]; exact hT.2.2.2.1 j hj
theorem sim_16 : Sm16 Rel := by
  intro X Y h a1 a2
  rcases oo_ix a1 (n := 10) (by decide) with h1 | ⟨p, hp, rfl⟩
  · obtain ⟨w, hw⟩ := wM_tot a2 6
    refine Or.inr (Or.inl ⟨0, up2 Y 0 0 1, ?_, ?_, up2_at _ _ _ _, Rel_t h⟩)
    · unfold kE_most; rw [eE_Invigilator0 h1, xbd_eq, if_pos rfl]
    · unfold fM_most; rw [eM_Invigilator0 h1, xbd_eq, hw, xbd_eq, g0, xbd_eq, if_pos rfl]
  · rcases uu_ix a2 (n := 6) (by decide) with h2 | ⟨v, hv, rfl⟩
    · refine Or.inr (Or.inr ⟨0, up2 Y 0 0 2, ?_, ?_, up2_at _ _ _ _, Rel_t h⟩)
      · unfold kE_most; rw [eE_Invigilator hp, xbd_eq, if_neg (by decide), show fE_isUpTo a2 6 = some 0 from uE_out h2, xbd_eq, if_pos rfl]
      · unfold fM_most; rw [eM_Invigilator hp, xbd_eq, show fM_within a2 0 6 = some 0 from wM_out h2, xbd_eq, g10, xbd_eq, if_pos rfl]
    · have hO := Rel_qO h
      refine Or.inl ⟨X 45 p, up2 X 45 p (nI v), up2 (up2 Y 0 0 0) 19 p (nI v), ?_, ?_, rfl, ?_⟩
      · unfold fE_most
        rw [eE_Invigilator hp, xbd_eq, me1, xbd_eq, show fE_isUpTo (nI v) 6 = some 1 from uE_in hv (by decide), xbd_eq, ma1, xbd_eq, xgd_pos (vi_ hp (by decide)), xlt_eq, xgd_pos (vi_ hp (by decide)), xlt_eq, cl_ (by omega)]
      · unfold fM_most
        rw [eM_Invigilator hp, xbd_eq, show fM_within (nI v) 0 6 = some 1 from wM_in hv (by decide), xbd_eq, g11, xbd_eq, if_neg n10, xgd_pos (vi_ hp (by decide)), xlt_eq, xgd_pos (vi_ hp (by decide)), xlt_eq, cl_ (by omega), (hO.1 p hp).1]
        rfl
      · refine Rel_O h (fun j h1 h2 => up2_ne (by omega)) (fun j h0 h1 h2 => by rw [up2_ne (by omega), up2_ne (by omega)]) rfl ⟨fun j hj => ?_, hO.2⟩
        rw [up2_same, up2_same, up2_ne (by decide)]
        by_cases e : j = p
        · subst e; rw [pk_us, pk_us]; exact ⟨rfl, v, hv, rfl⟩
        · rw [pk_un e, pk_un e]; exact hO.1 j hj
theorem sim_8 : Sm8 Rel := by
  intro X Y h a1
  rcases oo_ix a1 (n := 9) (by decide) with h1 | ⟨p, hp, rfl⟩
  · refine Or.inr ⟨0, up2 Y 0 0 1, ?_, ?_, up2_at _ _ _ _, Rel_t h⟩
    · unfold kE_planned; rw [eE_Paper0 h1, xbd_eq, if_pos rfl]
    · unfold fM_planned
      rw [eM_Paper0 h1, xbd_eq, g0, xbd_eq]
      simp only [up2_at]
      rfl
  · have hP := (Rel_qP h).1
    refine Or.inl ⟨X 11 p, up2 Y 0 0 0, ?_, ?_, up2_at _ _ _ _, Rel_t h⟩
    · unfold fE_planned; rw [eE_Paper hp, xbd_eq, me1, xbd_eq, xgd_pos (vi_ hp (by decide)), cl_ (by omega)]
    · unfold fM_planned
      rw [eM_Paper hp, xbd_eq, g11, xbd_eq, if_neg n10, hP.2.2.2.1 p hp]
      show (if Y 0 7 = 0 then _ else _) = _
      by_cases e : Y 0 7 = 0
      · rw [if_pos e, if_pos e]; simp only [up2_at]; rfl
      · rw [if_neg e, if_neg e, xgd_pos (vi_ hp (by decide)), cl_ (by omega)]; rfl
