/-! ===== room ===== -/
def qr1 (q : Nat → Nat → Nat) (r j : Nat) : Nat → Nat → Nat := fun s k => if 36 * r ≤ k ∧ k < 36 * r + j then 0 else q s k
def qr2 (q : Nat → Nat → Nat) (r j i : Nat) : Nat → Nat → Nat := fun s k => if (36 * r ≤ k ∧ k < 36 * r + j) ∨ (k = 36 * r + j ∧ s < i) then 0 else q s k
theorem qr2_s (q : Nat → Nat → Nat) (r j i : Nat) : un2 (qr2 q r j i) i (36 * r + j) 0 = qr2 q r j (i + 1) := by
  funext s k
  by_cases e : s = i
  · subst e
    rw [un2_s]
    by_cases e2 : k = 36 * r + j
    · subst e2; rw [un_s]; unfold qr2; rw [if_pos (Or.inr ⟨rfl, by omega⟩)]
    · rw [un_n e2]; unfold qr2
      by_cases c : (36 * r ≤ k ∧ k < 36 * r + j) ∨ (k = 36 * r + j ∧ s < s)
      · rw [if_pos c, if_pos (by omega)]
      · rw [if_neg c, if_neg (by omega)]
  · rw [un2_n e]; unfold qr2
    by_cases c : (36 * r ≤ k ∧ k < 36 * r + j) ∨ (k = 36 * r + j ∧ s < i)
    · rw [if_pos c, if_pos (by omega)]
    · rw [if_neg c, if_neg (by omega)]
theorem qr2_0 (q : Nat → Nat → Nat) (r j : Nat) : qr2 q r j 0 = qr1 q r j := by
  funext s k; unfold qr2 qr1
  by_cases c : 36 * r ≤ k ∧ k < 36 * r + j
  · rw [if_pos c, if_pos (Or.inl c)]
  · rw [if_neg c, if_neg (by omega)]
theorem qr1_0 (q : Nat → Nat → Nat) (r : Nat) : qr1 q r 0 = q := by
  funext s k; unfold qr1; rw [if_neg (by omega)]
theorem qC_ext {X : Mem} {q q' pa : Nat → Nat → Nat} (h : qC X q pa) (e : ∀ s k, s < 6 → k < 144 → q' s k = q s k) : qC X q' pa := fun s hs => rS1_ext (h s hs) (fun k hk => e s k hs hk)
theorem xR_furnish {X : Mem} {q pa : Nat → Nat → Nat} (h : qC X q pa) {r n m : Nat} {z : Bool} (hr : r < 4) : ∃ X', fR_furnish (nI r) (nI n) (nI m) (bz z) X = some X' ∧ qC X' (qr1 q r 36) pa ∧ (∀ j, j < 19 ∨ 44 ≤ j → X' j = X j) ∧ X' 19 = upd (X 19) r (nI n) ∧ X' 20 = upd (X 20) r (nI m) ∧ X' 21 = upd (X 21) r (bz z) ∧ (∀ k, k < 144 → X' 22 k = if 36 * r ≤ k ∧ k < 36 * r + 36 then 0 else X 22 k) := by
  have inner : ∀ (j : Nat) (M : Mem), j < 36 → qC M (qr1 q r j) pa → ∃ t, xlp (bR_furnish_28 (nI r) (nI n) (nI m) (bz z) (nI (36 * r + j))) (0, M) = some t ∧ (qC t.2 (qr1 q r (j + 1)) pa ∧ ∀ i, i < 24 ∨ 44 ≤ i → t.2 i = M i) := by
    intro j M hj hM
    refine xlp_inv (fun i st => st.1 = nI i ∧ qC st.2 (qr2 q r j i) pa ∧ ∀ t, t < 24 ∨ 44 ≤ t → st.2 t = M t) _ 6 ?_ (0, M) ⟨rfl, by rw [qr2_0]; exact hM, fun _ _ => rfl⟩
    rintro i ⟨v, N⟩ hi ⟨e1, hq', hf'⟩
    dsimp only at e1 hq' hf'
    subst e1
    dsimp only [bR_furnish_28, gR_furnish_28]
    by_cases hcc : i = 6
    · subst hcc
      refine Or.inl ⟨_, if_pos (Int32.le_refl (nI 6)), qC_ext hq' (fun s k hs hk => ?_), hf'⟩
      unfold qr1 qr2
      by_cases c : 36 * r ≤ k ∧ k < 36 * r + (j + 1)
      · rw [if_pos c, if_pos (by omega)]
      · rw [if_neg c, if_neg (by omega)]
    · have hi6 : i < 6 := by omega
      refine Or.inr ⟨hi6, ?_⟩
      obtain ⟨X', b1, b2, b3, -, -⟩ := xR_vacate hq' hi6 (show 36 * r + j < 144 by omega)
      rw [if_neg (show ¬ (6 : Int32) ≤ nI i from nI_ltc hi6 (by decide)), b1, xbd_eq, xlt_eq, nI_1]
      exact ⟨_, rfl, rfl, by rw [← qr2_s]; exact b2, fun t ht => (b3 t ht).trans (hf' t ht)⟩
  have outer : ∃ t, xlp (bR_furnish_6 (nI r) (nI n) (nI m) (bz z)) (nI (36 * r), X) = some t ∧ (qC t.2 (qr1 q r 36) pa ∧ (∀ i, i ≠ 22 → (i < 24 ∨ 44 ≤ i) → t.2 i = X i) ∧ ∀ k, t.2 22 k = if 36 * r ≤ k ∧ k < 36 * r + 36 then 0 else X 22 k) := by
    refine xlp_inv (fun j st => st.1 = nI (36 * r + j) ∧ qC st.2 (qr1 q r j) pa ∧ (∀ i, i ≠ 22 → (i < 24 ∨ 44 ≤ i) → st.2 i = X i) ∧ ∀ k, st.2 22 k = if 36 * r ≤ k ∧ k < 36 * r + j then 0 else X 22 k) _ 36 ?_ (nI (36 * r), X) ⟨rfl, by rw [qr1_0]; exact h, fun _ _ _ => rfl, fun k => by rw [if_neg (by omega)]⟩
    rintro j ⟨v, N⟩ hj ⟨e1, hq', hf', hb'⟩
    dsimp only at e1 hq' hf' hb'
    subst e1
    dsimp only [bR_furnish_6, gR_furnish_6]
    rw [nI_1, show nI (r + 1) * 36 = nI (36 * r + 36) by show nI (r + 1) * nI 36 = _; rw [pk_mul]; congr 1; omega]
    by_cases hcc : j = 36
    · subst hcc
      exact Or.inl ⟨_, if_pos (Int32.le_refl _), hq', hf', hb'⟩
    · have hj6 : j < 36 := by omega
      refine Or.inr ⟨hj6, ?_⟩
      rw [if_neg (nI_ltc (show 36 * r + j < 36 * r + 36 by omega) (by omega)), xgd_pos (vi_ (show 36 * r + j < 144 by omega) (by decide)), xlt_eq, cl_ (by omega), show vp_nar .boolean 0 = 0 from bz_nar false]
      have hM : qC (up2 N 22 (36 * r + j) 0) (qr1 q r j) pa := by
        have e9 : ∀ i, 24 ≤ i → i < 44 → up2 N 22 (36 * r + j) 0 i = N i := fun i h1 h2 => up2_ne (by omega)
        show rS _ _ _ _ _
        rw [seg_eq (X := N) (fun i h1 h2 => e9 i (by omega) (by omega)), seg_eq (X := N) (fun i h1 h2 => e9 i (by omega) (by omega)), seg_eq (X := N) (fun i h1 h2 => e9 i (by omega) (by omega))]
        exact hq'
      obtain ⟨t, t1, t2, t3⟩ := inner j _ hj6 hM
      rw [t1, xbd_eq]
      unfold fR_furnish_49
      rw [xlt_eq, nI_1]
      refine ⟨_, rfl, rfl, t2, fun i h1 h2 => by dsimp only; rw [t3 i h2, up2_ne h1]; exact hf' i h1 h2, fun k => ?_⟩
      dsimp only
      rw [t3 22 (by omega), up2_same]
      by_cases e : k = 36 * r + j
      · subst e; rw [pk_us, if_pos (by omega)]
      · rw [pk_un e, hb' k]
        by_cases c : 36 * r ≤ k ∧ k < 36 * r + j
        · rw [if_pos c, if_pos (by omega)]
        · rw [if_neg c, if_neg (by omega)]
  obtain ⟨t, t1, t2, t3, t4⟩ := outer
  unfold fR_furnish
  rw [xlt_eq, show nI r * 36 = nI (36 * r) by show nI r * nI 36 = _; rw [pk_mul]; congr 1; omega, t1, xbd_eq]
  unfold fR_furnish_55
  rw [bz_nar, cl_ (by omega)]
  simp only [xlt_eq, xgd_pos (vi_ hr (show 4 < 100000 by decide))]
  refine ⟨_, rfl, ?_, fun j hj => by rw [up2_ne (by omega), up2_ne (by omega), up2_ne (by omega)]; exact t3 j (by omega) (by omega), ?_, ?_, ?_, fun k hk => ?_⟩
  · have e9 : ∀ i, 24 ≤ i → i < 44 → up2 (up2 (up2 t.2 19 r (nI n)) 20 r (nI m)) 21 r (bz z) i = t.2 i := fun i h1 h2 => by rw [up2_ne (by omega), up2_ne (by omega), up2_ne (by omega)]
    show rS _ _ _ _ _
    rw [seg_eq (X := t.2) (fun i h1 h2 => e9 i (by omega) (by omega)), seg_eq (X := t.2) (fun i h1 h2 => e9 i (by omega) (by omega)), seg_eq (X := t.2) (fun i h1 h2 => e9 i (by omega) (by omega))]
    exact t2
  · rw [up2_ne (by decide), up2_ne (by decide), up2_same, t3 19 (by decide) (by decide)]
  · rw [up2_ne (by decide), up2_same, up2_ne (by decide), t3 20 (by decide) (by decide)]
  · rw [up2_same, up2_ne (by decide), up2_ne (by decide), t3 21 (by decide) (by decide)]
  · rw [up2_ne (by decide), up2_ne (by decide), up2_ne (by decide), t4 k]
theorem xM_roomloop {Y : Mem} {r : Nat} (hr : r < 4) : ∃ t, xlp (bM_room_65 (nI r)) (nI (36 * r), Y) = some t ∧ ((∀ i, i ≠ 16 → i ≠ 17 → t.2 i = Y i) ∧ (∀ k, t.2 16 k = if 36 * r ≤ k ∧ k < 36 * r + 36 then 0 else Y 16 k) ∧ ∀ s k, s < 6 → k < 144 → t.2 17 (144 * s + k) = if 36 * r ≤ k ∧ k < 36 * r + 36 then 0 else Y 17 (144 * s + k)) := by
  have inner : ∀ (j : Nat) (M : Mem), j < 36 → ∃ t, xlp (bM_room_88 (nI r) (nI (36 * r + j))) (0, M) = some t ∧ ((∀ i, i ≠ 17 → t.2 i = M i) ∧ ∀ s k, s < 6 → k < 144 → t.2 17 (144 * s + k) = if k = 36 * r + j then 0 else M 17 (144 * s + k)) := by
    intro j M hj
    refine xlp_inv (fun i st => st.1 = nI i ∧ (∀ t, t ≠ 17 → st.2 t = M t) ∧ ∀ s k, s < 6 → k < 144 → st.2 17 (144 * s + k) = if k = 36 * r + j ∧ s < i then 0 else M 17 (144 * s + k)) _ 6 ?_ (0, M) ⟨rfl, fun _ _ => rfl, fun s k hs hk => by rw [if_neg (by omega)]⟩
    rintro i ⟨v, N⟩ hi ⟨e1, hf', hq'⟩
    dsimp only at e1 hq' hf'
    subst e1
    dsimp only [bM_room_88, gM_room_88]
    by_cases hcc : i = 6
    · subst hcc
      refine Or.inl ⟨_, if_pos (Int32.le_refl (nI 6)), hf', fun s k hs hk => ?_⟩
      dsimp only
      rw [hq' s k hs hk]
      by_cases c : k = 36 * r + j
      · rw [if_pos c, if_pos ⟨c, hs⟩]
      · rw [if_neg c, if_neg (by omega)]
    · have hi6 : i < 6 := by omega
      refine Or.inr ⟨hi6, ?_⟩
      rw [if_neg (show ¬ (6 : Int32) ≤ nI i from nI_ltc hi6 (by decide)), ix144, xgd_pos (vi_ (show 144 * i + (36 * r + j) < 864 by omega) (by decide)), xlt_eq, xlt_eq, nI_1, cl_ (by omega)]
      refine ⟨_, rfl, rfl, fun t ht => by dsimp only; rw [up2_ne ht]; exact hf' t ht, fun s k hs hk => ?_⟩
      dsimp only
      rw [up2_same]
      by_cases e : 144 * s + k = 144 * i + (36 * r + j)
      · rw [e, pk_us, if_pos (by omega)]
      · rw [pk_un e, hq' s k hs hk]
        by_cases c : k = 36 * r + j ∧ s < i
        · rw [if_pos c, if_pos (by omega)]
        · rw [if_neg c, if_neg (by omega)]
  refine xlp_inv (fun j (st : Int32 × Mem) => st.1 = nI (36 * r + j) ∧ (∀ i, i ≠ 16 → i ≠ 17 → st.2 i = Y i) ∧ (∀ k, st.2 16 k = if 36 * r ≤ k ∧ k < 36 * r + j then 0 else Y 16 k) ∧ ∀ s k, s < 6 → k < 144 → st.2 17 (144 * s + k) = if 36 * r ≤ k ∧ k < 36 * r + j then 0 else Y 17 (144 * s + k)) _ 36 ?_ (nI (36 * r), Y) ⟨rfl, fun _ _ _ => rfl, fun k => by rw [if_neg (by omega)], fun s k hs hk => by rw [if_neg (by omega)]⟩
  rintro j ⟨v, N⟩ hj ⟨e1, hf', hb', hq'⟩
  dsimp only at e1 hq' hf' hb'
  subst e1
  dsimp only [bM_room_65, gM_room_65]
  rw [show (36 : Int32) * nI r + 36 = nI (36 * r + 36) by show nI 36 * nI r + nI 36 = _; rw [pk_mul, nI_add]]
  by_cases hcc : j = 36
  · subst hcc
    exact Or.inl ⟨_, if_pos (Int32.le_refl _), hf', hb', hq'⟩
  · have hj6 : j < 36 := by omega
    refine Or.inr ⟨hj6, ?_⟩
    rw [if_neg (nI_ltc (show 36 * r + j < 36 * r + 36 by omega) (by omega)), xgd_pos (vi_ (show 36 * r + j < 144 by omega) (by decide)), xlt_eq, cl_ (by omega), show vp_nar .boolean 0 = 0 from bz_nar false]
    obtain ⟨t, t1, t2, t3⟩ := inner j (up2 N 16 (36 * r + j) 0) hj6
    rw [t1, xbd_eq]
    unfold fM_room_116
    rw [xlt_eq, nI_1]
    refine ⟨_, rfl, rfl, fun i h1 h2 => by dsimp only; rw [t2 i h2, up2_ne h1]; exact hf' i h1 h2, fun k => ?_, fun s k hs hk => ?_⟩
    · dsimp only
      rw [t2 16 (by decide), up2_same]
      by_cases e : k = 36 * r + j
      · subst e; rw [pk_us, if_pos (by omega)]
      · rw [pk_un e, hb' k]
        by_cases c : 36 * r ≤ k ∧ k < 36 * r + j
        · rw [if_pos c, if_pos (by omega)]
        · rw [if_neg c, if_neg (by omega)]
    · dsimp only
      rw [t3 s k hs hk, up2_ne (by decide), hq' s k hs hk]
      by_cases e : k = 36 * r + j
      · rw [if_pos e, if_pos (by omega)]
      · rw [if_neg e]
        by_cases c : 36 * r ≤ k ∧ k < 36 * r + j
        · rw [if_pos c, if_pos (by omega)]
        · rw [if_neg c, if_neg (by omega)]
theorem xM_roomend (M : Mem) : fM_room_122 M = some (upA M 21 240 0) := by
  unfold fM_room_122
  rw [fill_run (k := 21) (n := 240) (v := 0) (by decide) (fun i M' hi => ?_) (fun M' => ?_), xbd_eq]
  · rfl
  · dsimp only [bM_room_125, gM_room_125]
    rw [if_neg (show ¬ (240 : Int32) ≤ nI i from nI_ltc hi (by decide)), xgd_pos (vi_n hi (by decide))]
    simp only [xlt_eq, nI_1]
    rfl
  · dsimp only [bM_room_125, gM_room_125]; exact if_pos (Int32.le_refl (nI 240))
theorem sim_10 : Sm10 Rel := by
  intro X Y h a1 a2 a3 a4
  rw [zb_bz]
  generalize (!decide (a4 = 0)) = z
  rcases oo_ix a1 (n := 4) (by decide) with h1 | ⟨r, hr, rfl⟩
  · have no : ∀ v, fM_room_30 a1 a2 a3 (bz z) v 0 Y = some (up2 Y 0 0 1) := fun v => by
      unfold fM_room_30; rw [g0, xbd_eq, if_pos rfl]
    obtain ⟨w, hw⟩ := wM_tot a2 6
    obtain ⟨w', hw'⟩ := wM_tot a3 6
    refine Or.inr (Or.inl ⟨up2 Y 0 0 1, ?_, ?_, up2_at _ _ _ _, Rel_t h⟩)
    · unfold kE_room; rw [eE_Room0 h1, xbd_eq, if_pos rfl]
    · unfold fM_room fM_room_29; rw [eM_Room0 h1, xbd_eq, hw, xbd_eq, hw', xbd_eq, no, no]
      rw [ite_self, ite_self]
  have no : fM_room_30 (nI r) a2 a3 (bz z) 0 1 Y = some (up2 Y 0 0 2) := by
    unfold fM_room_30; rw [g10, xbd_eq, if_pos rfl]
  rcases uu_ix a2 (n := 6) (by decide) with h2 | ⟨n, hn, rfl⟩
  · refine Or.inr (Or.inr ⟨up2 Y 0 0 2, ?_, ?_, up2_at _ _ _ _, Rel_t h⟩)
    · unfold kE_room kE_room_29 kE_room_30; rw [eE_Room hr, xbd_eq, if_neg n10, show fE_isUpTo a2 6 = some 0 from uE_out h2, xbd_eq, if_pos rfl]; exact if_pos rfl
    · unfold fM_room fM_room_29; rw [eM_Room hr, xbd_eq, show fM_within a2 0 6 = some 0 from wM_out h2, xbd_eq, if_pos rfl]; exact no
  have u1 : fE_isUpTo (nI n) 6 = some 1 := uE_in hn (by decide)
  have w1 : fM_within (nI n) 0 6 = some 1 := wM_in hn (by decide)
  rcases uu_ix a3 (n := 6) (by decide) with h2 | ⟨m, hm, rfl⟩
  · refine Or.inr (Or.inr ⟨up2 Y 0 0 2, ?_, ?_, up2_at _ _ _ _, Rel_t h⟩)
    · unfold kE_room kE_room_29 kE_room_30; rw [eE_Room hr, xbd_eq, if_neg n10, u1, xbd_eq, if_neg n10, show fE_isUpTo a3 6 = some 0 from uE_out h2, xbd_eq, if_pos rfl]; exact if_pos rfl
    · unfold fM_room fM_room_29; rw [eM_Room hr, xbd_eq, w1, xbd_eq, if_neg n10, show fM_within a3 0 6 = some 0 from wM_out h2, xbd_eq, if_pos rfl]; exact no
  have u2 : fE_isUpTo (nI m) 6 = some 1 := uE_in hm (by decide)
  have w2 : fM_within (nI m) 0 6 = some 1 := wM_in hm (by decide)
  obtain ⟨q, pa, hT, hP, hB, hS, hO, hW, h16⟩ := h
  obtain ⟨X1, c1, c2, c3, c4, c5, c6, c7⟩ := xR_furnish (n := n) (m := m) (z := z) hS.1 hr
  obtain ⟨t, t1, t2, t3, t4⟩ := xM_roomloop (Y := up2 (up2 (up2 (up2 Y 0 0 0) 13 r (nI n)) 14 r (nI m)) 15 r (bz z)) hr
  have fX : ∀ j, j < 19 ∨ (44 ≤ j ∧ j < 48) ∨ 54 ≤ j → ocl X1 6 j = X j := fun j hj => by rw [ocl_ne X1 6 (by decide) (by omega), c3 j (by omega)]
  have fX2 : ∀ j, 19 ≤ j → j < 44 → ocl X1 6 j = X1 j := fun j h1 h2 => ocl_ne X1 6 (by decide) (by omega)
  have fY : ∀ j, j ≠ 0 → (j < 13 ∨ 17 < j) → j ≠ 21 → upA t.2 21 240 0 j = Y j := fun j h0 h1 h2 => by
    rw [upA_ne h2, t2 j (by omega) (by omega), up2_ne (by omega), up2_ne (by omega), up2_ne (by omega), up2_ne h0]
  have fY0 : upA t.2 21 240 0 0 = up2 Y 0 0 0 0 := by
    rw [upA_ne (by decide), t2 0 (by decide) (by decide), up2_ne (by decide), up2_ne (by decide), up2_ne (by decide)]
  refine Or.inl ⟨ocl X1 6, upA t.2 21 240 0, ?_, ?_, by rw [fY0]; exact up2_at _ _ _ _, qr1 q r 36, pa, qT_c (fun j h1 h2 => fX j (by omega)) (fun j h1 h2 => fY j (by omega) (by omega) (by omega)) hT, qP_c (fun j hj => fX j (by omega)) (by rw [fY0]; rfl) (fY 7 (by decide) (by decide) (by decide)) hP, ⟨fun j hj => ?_, fun k hk => ?_⟩, ⟨?_, fun s k hs hk => ?_⟩, qO_c (fX 45 (by omega)) (fX 46 (by omega)) (fY 19 (by decide) (by decide) (by decide)) (fY 20 (by decide) (by decide) (by decide)) hO, r15_z (fun s r hs hr => ocl_in X1 hr 6 hs) (fun k hk => upA_in hk), fun e => ⟨fun s k hs hk => ?_, fun k hk => upA_in hk⟩⟩
  · unfold fE_room fE_room_30; rw [eE_Room hr, xbd_eq, me1, xbd_eq, u1, xbd_eq, if_neg n10, u2, xbd_eq, if_neg n10, ma1, xbd_eq, c1, xbd_eq, xO_clear, xbd_eq]
  · unfold fM_room fM_room_30
    rw [eM_Room hr, xbd_eq, w1, xbd_eq, if_neg n10, w2, xbd_eq, if_neg n10, g11, xbd_eq, if_neg n10, cl_ (by omega), bz_nar]
    simp only [xlt_eq, xgd_pos (vi_ hr (show 4 < 100000 by decide))]
    rw [show (36 : Int32) * nI r = nI (36 * r) by show nI 36 * nI r = _; rw [pk_mul], t1, xbd_eq]
    exact xM_roomend _
  · rw [fX2 19 (by decide) (by decide), fX2 20 (by decide) (by decide), fX2 21 (by decide) (by decide), c4, c5, c6, upA_ne (by decide), upA_ne (by decide), upA_ne (by decide), t2 13 (by decide) (by decide), t2 14 (by decide) (by decide), t2 15 (by decide) (by decide)]
    have e13 : up2 (up2 (up2 (up2 Y 0 0 0) 13 r (nI n)) 14 r (nI m)) 15 r (bz z) 13 = upd (Y 13) r (nI n) := by rw [up2_ne (by decide), up2_ne (by decide), up2_same, up2_ne (by decide)]
    have e14 : up2 (up2 (up2 (up2 Y 0 0 0) 13 r (nI n)) 14 r (nI m)) 15 r (bz z) 14 = upd (Y 14) r (nI m) := by rw [up2_ne (by decide), up2_same, up2_ne (by decide), up2_ne (by decide)]
    have e15 : up2 (up2 (up2 (up2 Y 0 0 0) 13 r (nI n)) 14 r (nI m)) 15 r (bz z) 15 = upd (Y 15) r (bz z) := by rw [up2_same, up2_ne (by decide), up2_ne (by decide), up2_ne (by decide)]
    rw [e13, e14, e15]
    by_cases e : j = r
    · subst e
      simp only [pk_us]
      exact ⟨trivial, trivial, trivial, ⟨n, hn, rfl⟩, ⟨m, hm, rfl⟩, isB_bz z⟩
    · simp only [pk_un e]
      exact hB.1 j hj
  · rw [fX2 22 (by decide) (by decide), c7 k hk, upA_ne (by decide), t3 k]
    have e16 : up2 (up2 (up2 (up2 Y 0 0 0) 13 r (nI n)) 14 r (nI m)) 15 r (bz z) 16 = Y 16 := by rw [up2_ne (by decide), up2_ne (by decide), up2_ne (by decide), up2_ne (by decide)]
    rw [e16]
    by_cases c : 36 * r ≤ k ∧ k < 36 * r + 36
    · rw [if_pos c, if_pos c]; exact ⟨rfl, Or.inl rfl⟩
    · rw [if_neg c, if_neg c]; exact hB.2 k hk
  · rw [seg_eq (X := X1) (fun i h1 h2 => fX2 i (by omega) (by omega)), seg_eq (X := X1) (fun i h1 h2 => fX2 i (by omega) (by omega)), seg_eq (X := X1) (fun i h1 h2 => fX2 i (by omega) (by omega))]
    exact c2
  · rw [upA_ne (by decide), t4 s k hs hk, fY 18 (by decide) (by decide) (by decide)]
    have e17 : up2 (up2 (up2 (up2 Y 0 0 0) 13 r (nI n)) 14 r (nI m)) 15 r (bz z) 17 = Y 17 := by rw [up2_ne (by decide), up2_ne (by decide), up2_ne (by decide), up2_ne (by decide)]
    rw [e17]
    unfold qr1
    by_cases c : 36 * r ≤ k ∧ k < 36 * r + 36
    · rw [if_pos c, if_pos c]; exact ⟨rfl, fun h => absurd rfl h⟩
    · rw [if_neg c, if_neg c]; exact hS.2 s k hs hk
  · rw [fY0] at e
    unfold qr1
    by_cases c : 36 * r ≤ k ∧ k < 36 * r + 36
    · rw [if_pos c]
    · rw [if_neg c]; exact (h16 e).1 s k hs hk
