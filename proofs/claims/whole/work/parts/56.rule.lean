/-! ===== rule ===== -/
theorem rY_bit (y : Nat → Int32) (k b : Nat) {a : Nat} (ha : a < 9) : (rY y k b).testBit a = bq (y (81 * k + 9 * a + b)) := by
  unfold rY; rw [sO_bit]; simp [ha]
theorem rY_lt9 (y : Nat → Int32) (k b : Nat) : rY y k b < 2 ^ 9 := sO_lt _ 9
theorem rY_lt (y : Nat → Int32) (k b : Nat) : rY y k b < 2 ^ 31 := Nat.lt_of_lt_of_le (sO_lt _ 9) (by decide)
theorem r5_at {X : Mem} {y6 : Nat → Int32} (h : r5 (X 7) (X 8) (X 9) y6) {k b : Nat} (hk : k < 3) (hb : b < 9) : X (7 + k) b = nI (rY y6 k b) := by
  rcases (show k = 0 ∨ k = 1 ∨ k = 2 by omega) with rfl | rfl | rfl
  · exact h.1 b hb
  · exact h.2.1 b hb
  · exact h.2.2.1 b hb
theorem r5_of {X : Mem} {y6 : Nat → Int32} (h : ∀ k b, k < 3 → b < 9 → X (7 + k) b = nI (rY y6 k b)) (h4 : ∀ k, k < 243 → isB (y6 k)) (h5 : ∀ k, k < 2 → ∀ a b, a < 9 → b < 9 → y6 (81 * k + 9 * a + b) = y6 (81 * k + 9 * b + a)) (h6 : ∀ k, k < 3 → ∀ a, a < 9 → y6 (81 * k + 9 * a + a) = 0) : r5 (X 7) (X 8) (X 9) y6 :=
  ⟨fun b hb => h 0 b (by decide) hb, fun b hb => h 1 b (by decide) hb, fun b hb => h 2 b (by decide) hb, h4, h5, h6⟩
/-- the rule's two cells after a change -/
def y6n (y6 : Nat → Int32) (k a b : Nat) (z : Bool) : Nat → Int32 := if k < 2 then upd (upd y6 (81 * k + 9 * a + b) (bz z)) (81 * k + 9 * b + a) (bz z) else upd y6 (81 * k + 9 * a + b) (bz z)
theorem y6n_at {y6 : Nat → Int32} {k a b : Nat} {z : Bool} (ha : a < 9) (hb : b < 9) {k' a' b' : Nat} (ha' : a' < 9) (hb' : b' < 9) : y6n y6 k a b z (81 * k' + 9 * a' + b') = if k' = k ∧ ((a' = a ∧ b' = b) ∨ (k < 2 ∧ a' = b ∧ b' = a)) then bz z else y6 (81 * k' + 9 * a' + b') := by
  unfold y6n
  by_cases hk : k < 2
  · rw [if_pos hk]
    by_cases e2 : 81 * k' + 9 * a' + b' = 81 * k + 9 * b + a
    · rw [e2, pk_us, if_pos ⟨by omega, Or.inr ⟨hk, by omega, by omega⟩⟩]
    · rw [pk_un e2]
      by_cases e1 : 81 * k' + 9 * a' + b' = 81 * k + 9 * a + b
      · rw [e1, pk_us, if_pos ⟨by omega, Or.inl ⟨by omega, by omega⟩⟩]
      · rw [pk_un e1, if_neg]
        rintro ⟨c1, ⟨c2, c3⟩ | ⟨_, c2, c3⟩⟩
        · exact e1 (by omega)
        · exact e2 (by omega)
  · rw [if_neg hk]
    by_cases e1 : 81 * k' + 9 * a' + b' = 81 * k + 9 * a + b
    · rw [e1, pk_us, if_pos ⟨by omega, Or.inl ⟨by omega, by omega⟩⟩]
    · rw [pk_un e1, if_neg]
      rintro ⟨c1, ⟨c2, c3⟩ | ⟨c0, c2, c3⟩⟩
      · exact e1 (by omega)
      · exact hk c0
theorem cell243 {n : Nat} (h : n < 243) : ∃ k a b, k < 3 ∧ a < 9 ∧ b < 9 ∧ n = 81 * k + 9 * a + b := ⟨n / 81, n % 81 / 9, n % 9, by omega, by omega, by omega, by omega⟩
theorem ix81 (k a b : Nat) : (81 : Int32) * nI k + (9 : Int32) * nI a + nI b = nI (81 * k + 9 * a + b) := by
  show nI 81 * nI k + nI 9 * nI a + nI b = _
  rw [pk_mul, pk_mul, nI_add, nI_add]
theorem n20 : ¬ (2 : Int32) = 0 := by decide
theorem rule_x {X : Mem} {y6 : Nat → Int32} {k a b : Nat} {z : Bool} (h : r5 (X 7) (X 8) (X 9) y6) (hk : k < 3) (ha : a < 9) (hb : b < 9) (hab : a ≠ b) : ∃ X', fT_setRule (nI k) (nI a) (nI b) (bz z) X = some X' ∧ (∀ k' b', k' < 3 → b' < 9 → X' (7 + k') b' = nI (rY (y6n y6 k a b z) k' b')) ∧ (∀ j, j < 7 ∨ 10 ≤ j → X' j = X j) := by
  have ek : (6 : Nat) + 1 + (nI k).toNatClampNeg = 7 + k := by rw [cl_ (by omega)]
  have bit : ∀ k' b' i, k' < 3 → b' < 9 → i < 9 → (rY (y6n y6 k a b z) k' b').testBit i = if k' = k ∧ ((i = a ∧ b' = b) ∨ (k < 2 ∧ i = b ∧ b' = a)) then z else (rY y6 k' b').testBit i := by
    intro k' b' i hk' hb' hi
    rw [rY_bit _ _ _ hi, y6n_at ha hb hi hb', rY_bit _ _ _ hi]
    by_cases e : k' = k ∧ ((i = a ∧ b' = b) ∨ (k < 2 ∧ i = b ∧ b' = a))
    · rw [if_pos e, if_pos e, bq_bz]
    · rw [if_neg e, if_neg e]
  unfold fT_setRule fT_setRule_49
  rw [xgd_pos (vi_ hk (by decide)), xgd_pos (vi_ hk (by decide)), xgd_pos (vi_ hb (by decide)), ek, cl_ (show b < 100000 by omega), cl_ (show a < 100000 by omega), r5_at h hk hb, xE_with (rY_lt _ _ _) (by omega), xbd_eq, xgd_pos (vi_ hb (by decide)), xlt_eq]
  by_cases h2 : k = 2
  · subst h2
    rw [if_pos (show nI 2 = (2 : Int32) from rfl)]
    refine ⟨_, rfl, fun k' b' hk' hb' => ?_, fun j hj => up2_ne (by omega)⟩
    by_cases e : k' = 2 ∧ b' = b
    · obtain ⟨rfl, rfl⟩ := e
      rw [up2_at]
      congr 1
      refine bits_eq (k := 9) (wit_lt (rY_lt9 _ _ _) ha) (rY_lt9 _ _ _) (fun i hi => ?_)
      rw [bit 2 b' i (by decide) hb hi, wit_bit]
      by_cases e3 : i = a
      · rw [if_pos e3, if_pos ⟨rfl, Or.inl ⟨e3, rfl⟩⟩]
      · rw [if_neg e3, if_neg (fun h => by rcases h.2 with h | h; exact e3 h.1; omega)]
    · rw [up2_off (by omega), r5_at h hk' hb']
      congr 1
      refine bits_eq (k := 9) (rY_lt9 _ _ _) (rY_lt9 _ _ _) (fun i hi => ?_)
      rw [bit k' b' i hk' hb' hi, if_neg (fun h => by rcases h.2 with h' | h'; exact e ⟨h.1, h'.2⟩; omega)]
  · rw [if_neg (show ¬ nI k = 2 from fun e => h2 ((nI_eq (by omega) (by decide)).mp e)), xgd_pos (vi_ hk (by decide)), xgd_pos (vi_ hk (by decide)), xgd_pos (vi_ ha (by decide)), up2_off (show ¬ (7 + k = 7 + k ∧ a = b) from fun e => hab e.2), r5_at h hk ha, xE_with (rY_lt _ _ _) (by omega), xbd_eq, xgd_pos (vi_ ha (by decide)), xlt_eq]
    refine ⟨_, rfl, fun k' b' hk' hb' => ?_, fun j hj => by rw [up2_ne (by omega), up2_ne (by omega)]⟩
    by_cases e1 : k' = k ∧ b' = a
    · obtain ⟨rfl, rfl⟩ := e1
      rw [up2_at]
      congr 1
      refine bits_eq (k := 9) (wit_lt (rY_lt9 _ _ _) hb) (rY_lt9 _ _ _) (fun i hi => ?_)
      rw [bit k' b' i hk' hb' hi, wit_bit]
      by_cases e3 : i = b
      · rw [if_pos e3, if_pos ⟨rfl, Or.inr ⟨by omega, e3, rfl⟩⟩]
      · rw [if_neg e3, if_neg (fun h => by rcases h.2 with h | h; exact hab h.2; exact e3 h.2.1)]
    · rw [up2_off (by omega)]
      by_cases e2 : k' = k ∧ b' = b
      · obtain ⟨rfl, rfl⟩ := e2
        rw [up2_at]
        congr 1
        refine bits_eq (k := 9) (wit_lt (rY_lt9 _ _ _) ha) (rY_lt9 _ _ _) (fun i hi => ?_)
        rw [bit k' b' i hk' hb' hi, wit_bit]
        by_cases e3 : i = a
        · rw [if_pos e3, if_pos ⟨rfl, Or.inl ⟨e3, rfl⟩⟩]
        · rw [if_neg e3, if_neg (fun h => by rcases h.2 with h | h; exact e3 h.1; exact hab h.2.2.symm)]
      · rw [up2_off (by omega), r5_at h hk' hb']
        congr 1
        refine bits_eq (k := 9) (rY_lt9 _ _ _) (rY_lt9 _ _ _) (fun i hi => ?_)
        rw [bit k' b' i hk' hb' hi, if_neg (fun h => by rcases h.2 with h' | h'; exact e2 ⟨h.1, h'.2⟩; exact e1 ⟨h.1, h'.2.2⟩)]
theorem r5_new {X X' : Mem} {y6 : Nat → Int32} {k a b : Nat} {z : Bool} (h : r5 (X 7) (X 8) (X 9) y6) (hk : k < 3) (ha : a < 9) (hb : b < 9) (hab : a ≠ b) (hX : ∀ k' b', k' < 3 → b' < 9 → X' (7 + k') b' = nI (rY (y6n y6 k a b z) k' b')) : r5 (X' 7) (X' 8) (X' 9) (y6n y6 k a b z) := by
  refine r5_of hX (fun n hn => ?_) (fun k' hk' a' b' ha' hb' => ?_) (fun k' hk' a' ha' => ?_)
  · obtain ⟨k', a', b', h1, h2, h3, rfl⟩ := cell243 hn
    rw [y6n_at ha hb h2 h3]
    by_cases e : k' = k ∧ ((a' = a ∧ b' = b) ∨ (k < 2 ∧ a' = b ∧ b' = a))
    · rw [if_pos e]; exact isB_bz z
    · rw [if_neg e]; exact h.2.2.2.1 _ hn
  · rw [y6n_at ha hb ha' hb', y6n_at ha hb hb' ha', h.2.2.2.2.1 k' hk' a' b' ha' hb']
    by_cases e : k' = k ∧ ((a' = a ∧ b' = b) ∨ (k < 2 ∧ a' = b ∧ b' = a))
    · rw [if_pos e, if_pos ⟨e.1, by rcases e.2 with e' | e'; exact Or.inr ⟨by omega, e'.2, e'.1⟩; exact Or.inl ⟨e'.2.2, e'.2.1⟩⟩]
    · rw [if_neg e, if_neg (fun e9 => e ⟨e9.1, by rcases e9.2 with e' | e'; exact Or.inr ⟨by omega, e'.2, e'.1⟩; exact Or.inl ⟨e'.2.2, e'.2.1⟩⟩)]
  · rw [y6n_at ha hb ha' ha', if_neg (fun e => by rcases e.2 with e' | e'; exact hab (e'.1.symm.trans e'.2); exact hab (e'.2.2.symm.trans e'.2.1)), h.2.2.2.2.2 k' hk' a' ha']
theorem rule_y {Y : Mem} {k a b : Nat} {z : Bool} (hk : k < 3) (ha : a < 9) (hb : b < 9) (s0 : Int32) : fM_rule_81 (nI k) (nI a) (nI b) (bz z) (nI (81 * k + 9 * a + b)) s0 Y = fM_rule_115 s0 (fun j => if j = 6 then y6n (Y 6) k a b z else Y j) := by
  unfold fM_rule_81
  rw [xgd_pos (vi_ (by omega) (by decide)), xlt_eq, cl_ (by omega), bz_nar, ix81, xgd_pos (vi_ (by omega) (by decide)), xlt_eq, cl_ (by omega)]
  by_cases h2 : k < 2
  · rw [if_neg (show ¬ (2 : Int32) ≤ nI k from nI_ltc h2 (by decide))]
    congr 1
    funext j
    by_cases e : j = 6
    · subst e; rw [up2_same, up2_same, if_pos rfl]; unfold y6n; rw [if_pos h2]
    · rw [up2_ne e, up2_ne e, if_neg e]
  · rw [if_pos (show (2 : Int32) ≤ nI k from nI_le (a := 2) (by omega) (by omega))]
    congr 1
    funext j
    by_cases e : j = 6
    · subst e; rw [up2_same, if_pos rfl]; unfold y6n; rw [if_neg h2]
    · rw [up2_ne e, if_neg e]
theorem y6n_id {y6 : Nat → Int32} {k a b : Nat} {z : Bool} (h : y6 (81 * k + 9 * a + b) = bz z) (h2 : k < 2 → y6 (81 * k + 9 * b + a) = bz z) : y6n y6 k a b z = y6 := by
  funext n
  unfold y6n
  by_cases hk : k < 2
  · rw [if_pos hk]
    by_cases e2 : n = 81 * k + 9 * b + a
    · rw [e2, pk_us, h2 hk]
    · rw [pk_un e2]
      by_cases e1 : n = 81 * k + 9 * a + b
      · rw [e1, pk_us, h]
      · rw [pk_un e1]
  · rw [if_neg hk]
    by_cases e1 : n = 81 * k + 9 * a + b
    · rw [e1, pk_us, h]
    · rw [pk_un e1]
theorem sim_4 : Sm4 Rel := by
  intro X Y h a1 a2 a3 a4
  rw [zb_bz]
  generalize (!decide (a4 = 0)) = z
  have bad : ((fE_isBelow a1 3 = some 0 ∧ fM_within a1 0 2 = some 0) ∨ ∃ k, k < 3 ∧ a1 = nI k) := by
    rcases oo_ix a1 (n := 3) (by decide) with h1 | ⟨c, hc, rfl⟩
    · refine Or.inl ⟨oE_out h1, wM_out ?_⟩
      rcases h1 with h1 | h1
      · exact Or.inl h1
      · refine Or.inr ?_
        rw [Int32.lt_iff_toInt_lt]
        rw [Int32.le_iff_toInt_le, nI_toInt (by decide)] at h1
        have : (2 : Int32).toInt = 2 := by decide
        omega
    · exact Or.inr ⟨c, hc, rfl⟩
  have nogo : ∀ t : Int32, fE_rule_26 a1 a2 a3 (bz z) X = fE_rule_26 a1 a2 a3 (bz z) X := fun _ => rfl
  have bad1 : ∀ v : Int32, fM_rule_43 a1 a2 a3 (bz z) v 0 Y = some (0, up2 Y 0 0 1) := fun v => by
    unfold fM_rule_43; rw [g0, xbd_eq, if_pos rfl]; exact xgd_pos (by decide) _
  have bad2 : fM_rule_27 a1 a2 a3 (bz z) Y = some (0, up2 Y 0 0 1) := by
    unfold fM_rule_27 fM_rule_28
    by_cases e : a2 = a3
    · rw [if_pos e]; exact bad1 _
    · rw [if_neg e]; exact bad1 _
  have bad3 : kE_rule_26 a1 a2 a3 (bz z) X = some 1 := by unfold kE_rule_26 kE_rule_27; exact if_pos rfl
  rcases bad with ⟨b1, b2⟩ | ⟨k, hk, rfl⟩
  · refine Or.inr (Or.inl ⟨0, up2 Y 0 0 1, ?_, ?_, up2_at _ _ _ _, Rel_t h⟩)
    · unfold kE_rule; rw [b1, xbd_eq, if_pos rfl]; exact bad3
    · unfold fM_rule; rw [b2, xbd_eq, if_pos rfl]; exact bad2
  have k1 : fE_isBelow (nI k) 3 = some 1 := oE_in hk (by decide)
  have k2 : fM_within (nI k) 0 2 = some 1 := wM_in (show k ≤ 2 by omega) (by decide)
  rcases oo_ix a2 (n := 9) (by decide) with h1 | ⟨a, ha, rfl⟩
  · refine Or.inr (Or.inl ⟨0, up2 Y 0 0 1, ?_, ?_, up2_at _ _ _ _, Rel_t h⟩)
    · unfold kE_rule; rw [k1, xbd_eq, if_neg n10, eE_Paper0 h1, xbd_eq, if_pos rfl]; exact bad3
    · unfold fM_rule; rw [k2, xbd_eq, if_neg n10, eM_Paper0 h1, xbd_eq, if_pos rfl]; exact bad2
  rcases oo_ix a3 (n := 9) (by decide) with h1 | ⟨b, hb, rfl⟩
  · refine Or.inr (Or.inl ⟨0, up2 Y 0 0 1, ?_, ?_, up2_at _ _ _ _, Rel_t h⟩)
    · unfold kE_rule; rw [k1, xbd_eq, if_neg n10, eE_Paper ha, xbd_eq, if_neg n10, eE_Paper0 h1, xbd_eq, if_pos rfl]; exact bad3
    · unfold fM_rule; rw [k2, xbd_eq, if_neg n10, eM_Paper ha, xbd_eq, if_neg n10, eM_Paper0 h1, xbd_eq, if_pos rfl]; exact bad2
  by_cases hab : a = b
  · subst hab
    refine Or.inr (Or.inr ⟨0, up2 Y 0 0 2, ?_, ?_, up2_at _ _ _ _, Rel_t h⟩)
    · unfold kE_rule kE_rule_27 kE_rule_40; rw [k1, xbd_eq, if_neg n10, eE_Paper ha, xbd_eq, if_neg n10, xbd_eq, if_neg n10, if_neg n10, if_pos rfl, if_pos rfl]
    · unfold fM_rule fM_rule_28 fM_rule_43; rw [k2, xbd_eq, if_neg n10, eM_Paper ha, xbd_eq, if_neg n10, xbd_eq, if_neg n10, if_pos rfl, g10, xbd_eq, if_pos rfl]; exact xgd_pos (by decide) _
  have hne : ¬ nI a = nI b := fun e => hab ((nI_eq (by omega) (by omega)).mp e)
  have hT := Rel_qT h
  have h5 := hT.2.2.2.2.1
  have e43 : fM_rule (nI k) (nI a) (nI b) (bz z) Y = fM_rule_43 (nI k) (nI a) (nI b) (bz z) 1 1 Y := by
    unfold fM_rule fM_rule_28; rw [k2, xbd_eq, if_neg n10, eM_Paper ha, xbd_eq, if_neg n10, eM_Paper hb, xbd_eq, if_neg n10, if_neg hne]
  have e40 : fE_rule (nI k) (nI a) (nI b) (bz z) X = fE_rule_40 (nI k) (nI a) (nI b) (bz z) 1 X := by
    unfold fE_rule fE_rule_27; rw [k1, xbd_eq, if_neg n10, eE_Paper ha, xbd_eq, if_neg n10, eE_Paper hb, xbd_eq, if_neg n10, me1, xbd_eq, if_neg hne]
  have hhas : fT_hasRule (nI k) (nI a) (nI b) X = some (bz (bq (Y 6 (81 * k + 9 * a + b)))) := by
    unfold fT_hasRule
    rw [xgd_pos (vi_ hk (by decide)), xgd_pos (vi_ hb (by decide)), cl_ (show b < 100000 by omega), show (6 : Nat) + 1 + (nI k).toNatClampNeg = 7 + k by rw [cl_ (by omega)], r5_at h5 hk hb, xE_has (rY_lt _ _ _) (by omega), xbd_eq, rY_bit _ _ _ ha]
    exact xgd_pos (bz_01 _) _
  have hbb := isB_bq (h5.2.2.2.1 (81 * k + 9 * a + b) (by omega))
  have hx : vp_in (nI (81 * k + 9 * a + b)) 243 := vi_ (by omega) (by decide)
  by_cases e : bq (Y 6 (81 * k + 9 * a + b)) = z
  · refine Or.inl ⟨0, X, up2 Y 0 0 0, ?_, ?_, up2_at _ _ _ _, Rel_t h⟩
    · rw [e40]; unfold fE_rule_40; rw [ma1, xbd_eq, hhas, xbd_eq, if_pos (by rw [e])]; exact xgd_pos (by decide) _
    · rw [e43]; unfold fM_rule_43
      rw [g11, xbd_eq, if_neg n10, xlt_eq, ix81, xgd_pos hx, cl_ (by omega), if_pos (show up2 Y 0 0 0 6 (81 * k + 9 * a + b) = bz z by rw [up2_ne (by decide), hbb, e]), rule_y hk ha hb]
      unfold fM_rule_115 fM_rule_124
      rw [if_pos rfl, xgd_pos (by decide)]
      congr 2
      funext j
      by_cases e6 : j = 6
      · subst e6
        rw [if_pos rfl]
        show y6n (Y 6) k a b z = Y 6
        exact y6n_id (by rw [hbb, e]) (fun hk2 => by rw [← h5.2.2.2.2.1 k hk2 a b ha hb, hbb, e])
      · rw [if_neg e6]
  · obtain ⟨X', d1, d2⟩ := drop_ok h
    have hT' := Rel_qT d2
    obtain ⟨X2, c1, c2, c3⟩ := rule_x (z := z) (X := X') (y6 := Y 6) hT'.2.2.2.2.1 hk ha hb hab
    refine Or.inl ⟨1, X2, forg (fun j => if j = 6 then y6n (Y 6) k a b z else up2 Y 0 0 0 j), ?_, ?_, rfl, ?_⟩
    · rw [e40]; unfold fE_rule_40; rw [ma1, xbd_eq, hhas, xbd_eq, if_neg (fun e9 => e (bz_inj.mp e9)), d1, xbd_eq, c1, xbd_eq]; exact xgd_pos (by decide) _
    · rw [e43]; unfold fM_rule_43
      rw [g11, xbd_eq, if_neg n10, xlt_eq, ix81, xgd_pos hx, cl_ (by omega), if_neg (show ¬ up2 Y 0 0 0 6 (81 * k + 9 * a + b) = bz z by rw [up2_ne (by decide), hbb]; exact fun e9 => e (bz_inj.mp e9)), rule_y hk ha hb]
      unfold fM_rule_115 fM_rule_124
      rw [if_neg n10, xM_forget, xbd_eq, xgd_pos (by decide)]
      rfl
    · refine Rel_T d2 (fun j hj => c3 j (by omega)) (c3 1 (by omega)) (fun j hj => ?_) rfl ⟨?_, ?_, ?_, ?_, r5_new (X := X') hT'.2.2.2.2.1 hk ha hb hab c2, ?_⟩
      · by_cases e17 : j = 17
        · subst e17; rfl
        · by_cases e21 : j = 21
          · subst e21; rfl
          · rw [forg_ne (by omega) e17 e21, forg_ne (by omega) e17 e21, if_neg (by omega), up2_ne (by omega)]
      · rw [c3 2 (by omega)]; exact hT'.1
      · rw [c3 3 (by omega)]; exact hT'.2.1
      · rw [c3 4 (by omega)]; exact hT'.2.2.1
      · rw [c3 5 (by omega)]; exact hT'.2.2.2.1
      · rw [c3 10 (by omega)]; exact hT'.2.2.2.2.2
