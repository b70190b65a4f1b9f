/-! ===== loops that count, loops that search ===== -/
theorem run2 {b : Int32 × Int32 → Option ((Int32 × Int32) ⊕ (Int32 × Int32))} {n : Nat} (f : Nat → Int32) (hb : ∀ i, i < n → b (f i, nI i) = some (.inr (f (i + 1), nI (i + 1)))) (he : b (f n, nI n) = some (.inl (f n, nI n))) : xlp b (f 0, 0) = some (f n, nI n) :=
  xlp_run (b := b) (r := (f n, nI n)) (fun i => (f i, nI i)) n hb he 0 (Nat.zero_le _)
theorem cntI_t {P : Nat → Bool} {i : Nat} (h : P i = true) : nI (cnt P i) + 1 = nI (cnt P (i + 1)) := by
  rw [nI_1]; show _ = nI (cnt P i + (P i).toNat); rw [h]; rfl
theorem cntI_f {P : Nat → Bool} {i : Nat} (h : P i = false) : nI (cnt P i) = nI (cnt P (i + 1)) := by
  show _ = nI (cnt P i + (P i).toNat); rw [h]; rfl
def fN (P : Nat → Bool) : Nat → Option Nat
  | 0 => none
  | n + 1 => match fN P n with
    | some i => some i
    | none => if P n then some n else none
theorem fN_some {P : Nat → Bool} {i : Nat} : ∀ {n : Nat}, fN P n = some i → i < n ∧ P i = true ∧ ∀ j, j < i → P j = false
  | 0, h => by cases h
  | n + 1, h => by
    unfold fN at h
    cases hq : fN P n with
    | some k =>
      rw [hq] at h
      cases h
      obtain ⟨h1, h2, h3⟩ := fN_some hq
      exact ⟨by omega, h2, h3⟩
    | none =>
      rw [hq] at h
      dsimp only at h
      by_cases hp : P n = true
      · rw [if_pos hp] at h; cases h
        refine ⟨by omega, hp, ?_⟩
        intro j hj
        have key : ∀ m, fN P m = none → ∀ j, j < m → P j = false := by
          intro m
          induction m with
          | zero => intro _ j hj; exact absurd hj (Nat.not_lt_zero j)
          | succ m ih =>
            intro hm j hj
            unfold fN at hm
            cases hq2 : fN P m with
            | some k => rw [hq2] at hm; cases hm
            | none =>
              rw [hq2] at hm
              dsimp only at hm
              by_cases hp2 : P m = true
              · rw [if_pos hp2] at hm; cases hm
              · by_cases e : j = m
                · subst e; exact Bool.eq_false_iff.mpr hp2
                · exact ih hq2 j (by omega)
        exact key _ hq j hj
      · rw [if_neg hp] at h; cases h
theorem fN_none {P : Nat → Bool} : ∀ {n : Nat}, fN P n = none → ∀ j, j < n → P j = false
  | 0, _, j, hj => absurd hj (Nat.not_lt_zero j)
  | n + 1, hm, j, hj => by
    unfold fN at hm
    cases hq2 : fN P n with
    | some k => rw [hq2] at hm; cases hm
    | none =>
      rw [hq2] at hm
      dsimp only at hm
      by_cases hp2 : P n = true
      · rw [if_pos hp2] at hm; cases hm
      · by_cases e : j = n
        · subst e; exact Bool.eq_false_iff.mpr hp2
        · exact fN_none hq2 j (by omega)
theorem fN_is {P : Nat → Bool} {n i : Nat} (hi : i < n) (hp : P i = true) (hb : ∀ j, j < i → P j = false) : fN P n = some i := by
  cases h : fN P n with
  | none => rw [fN_none h i hi] at hp; cases hp
  | some k =>
    obtain ⟨h1, h2, h3⟩ := fN_some h
    have : k = i := by
      rcases Nat.lt_trichotomy k i with h4 | h4 | h4
      · rw [hb k h4] at h2; cases h2
      · exact h4
      · rw [h3 i h4] at hp; cases hp
    rw [this]
theorem fN_no {P : Nat → Bool} {n : Nat} (hb : ∀ j, j < n → P j = false) : fN P n = none := by
  cases h : fN P n with
  | none => rfl
  | some k =>
    obtain ⟨h1, h2, h3⟩ := fN_some h
    rw [hb k h1] at h2; cases h2
theorem fN_ext {P Q : Nat → Bool} {n : Nat} (h : ∀ i, i < n → P i = Q i) : fN P n = fN Q n := by
  cases hp : fN P n with
  | none => exact (fN_no (fun j hj => by rw [← h j hj]; exact fN_none hp j hj)).symm
  | some k =>
    obtain ⟨h1, h2, h3⟩ := fN_some hp
    exact (fN_is h1 (by rw [← h k h1]; exact h2) (fun j hj => by rw [← h j (by omega)]; exact h3 j hj)).symm
def o2 : Option Nat → Int32
  | none => -1
  | some i => nI i
theorem srch {b : Int32 → Option ((Int32 ⊕ Int32) ⊕ Int32)} {P : Nat → Bool} {n : Nat} (hb : ∀ i, i < n → b (nI i) = if P i = true then some (.inl (.inl (nI i))) else some (.inr (nI (i + 1)))) (he : b (nI n) = some (.inl (.inr (nI n)))) {K : Int32 → Option Int32} (hK : ∀ t, K t = some (-1)) : xbd (xlp b 0) (fun e => Sum.elim (fun r => some r) (fun t => K t) e) = some (o2 (fN P n)) := by
  cases hp : fN P n with
  | none =>
    have h := xlp_run (b := b) (r := .inr (nI n)) (fun i => nI i) n (fun i hi => by rw [hb i hi, if_neg (by rw [fN_none hp i hi]; decide)]) he 0 (Nat.zero_le _)
    rw [show (0 : Int32) = nI 0 from rfl, h, xbd_eq]
    exact hK _
  | some k =>
    obtain ⟨h1, h2, h3⟩ := fN_some hp
    have h := xlp_run (b := b) (r := .inl (nI k)) (fun i => nI i) k (fun i hi => by rw [hb i (by omega), if_neg (by rw [h3 i hi]; decide)]) (by rw [hb k h1, if_pos h2]) 0 (Nat.zero_le _)
    rw [show (0 : Int32) = nI 0 from rfl, h, xbd_eq]
    rfl
/-! ===== clash ===== -/
def bothP (y4 : Nat → Int32) (a b : Nat) : Nat → Bool := fun c => bq (y4 (9 * c + a)) && bq (y4 (9 * c + b))
theorem xM_common {Y : Mem} {a b : Nat} (ha : a < 9) (hb : b < 9) : fM_common (nI a) (nI b) Y = some (nI (cnt (bothP (Y 4) a b) 40)) := by
  have hr : xlp (bM_common_5 (nI a) (nI b) Y) (nI (cnt (bothP (Y 4) a b) 0), 0) = some (nI (cnt (bothP (Y 4) a b) 40), nI 40) := by
    refine run2 (n := 40) (fun i => nI (cnt (bothP (Y 4) a b) i)) (fun i hi => ?_) ?_
    · dsimp only [bM_common_5, gM_common_5]
      rw [if_neg (show ¬ (40 : Int32) ≤ nI i from nI_ltc hi (by decide)), xlt_eq, ix9, xgd_pos (vi_ (by omega) (by decide)), cl_ (by omega), xlt_eq, ix9, xgd_pos (vi_ (by omega) (by decide)), cl_ (by omega)]
      unfold fM_common_48 fM_common_49
      simp only [xlt_eq, nI_1]
      by_cases e1 : Y 4 (9 * i + a) = 0
      · rw [if_pos e1, ← cntI_f (i := i) (show bothP (Y 4) a b i = false by unfold bothP; rw [e1]; rfl)]
      · rw [if_neg e1]
        by_cases e2 : Y 4 (9 * i + b) = 0
        · rw [if_pos e2, ← cntI_f (i := i) (show bothP (Y 4) a b i = false by unfold bothP; rw [e2, bq_0, Bool.and_false])]
        · rw [if_neg e2, ← nI_1, cntI_t (i := i) (show bothP (Y 4) a b i = true by unfold bothP; rw [bq_t.mpr e1, bq_t.mpr e2]; rfl)]
    · dsimp only [bM_common_5, gM_common_5]; exact if_pos (Int32.le_refl (nI 40))
  unfold fM_common
  show xbd (xlp _ (nI (cnt (bothP (Y 4) a b) 0), 0)) _ = _
  rw [hr, xbd_eq]
  rfl
theorem xT_both {X Y : Mem} (h3 : r3 (X 4) (Y 4)) {a b : Nat} (ha : a < 9) (hb : b < 9) : fT_enrolledForBoth (nI a) (nI b) X = some (nI (cnt (bothP (Y 4) a b) 40)) := by
  have hr : xlp (bT_enrolledForBoth_5 (nI a) (nI b) X) (nI (cnt (bothP (Y 4) a b) 0), 0) = some (nI (cnt (bothP (Y 4) a b) 40), nI 40) := by
    refine run2 (n := 40) (fun i => nI (cnt (bothP (Y 4) a b) i)) (fun i hi => ?_) ?_
    · dsimp only [bT_enrolledForBoth_5, gT_enrolledForBoth_5]
      rw [if_neg (show ¬ (40 : Int32) ≤ nI i from nI_ltc hi (by decide)), xgd_pos (vi_ hi (by decide)), cl_ (by omega), h3.1 i hi, xE_has (eY_lt _ _) (by omega), xbd_eq, eY_bit _ _ ha, xgd_pos (vi_ hi (by decide)), xE_has (eY_lt _ _) (by omega), xbd_eq, eY_bit _ _ hb]
      unfold fT_enrolledForBoth_43
      simp only [xlt_eq, nI_1, bz_0]
      by_cases e1 : bq (Y 4 (9 * i + a)) = false
      · rw [if_pos e1, ← cntI_f (i := i) (show bothP (Y 4) a b i = false by unfold bothP; rw [e1]; rfl)]
      · rw [if_neg e1]
        by_cases e2 : bq (Y 4 (9 * i + b)) = false
        · rw [if_pos e2, ← cntI_f (i := i) (show bothP (Y 4) a b i = false by unfold bothP; rw [e2, Bool.and_false])]
        · rw [if_neg e2, ← nI_1, cntI_t (i := i) (show bothP (Y 4) a b i = true by unfold bothP; rw [eq_true_of_ne_false e1, eq_true_of_ne_false e2]; rfl)]
    · dsimp only [bT_enrolledForBoth_5, gT_enrolledForBoth_5]; exact if_pos (Int32.le_refl (nI 40))
  unfold fT_enrolledForBoth
  show xbd (xlp _ (nI (cnt (bothP (Y 4) a b) 0), 0)) _ = _
  rw [hr, xbd_eq]
  rfl
theorem sim_6 : Sm6 Rel := by
  intro X Y h a1 a2
  rcases oo_ix a1 (n := 9) (by decide) with h1 | ⟨a, ha, rfl⟩
  · refine Or.inr ⟨0, up2 Y 0 0 1, ?_, ?_, up2_at _ _ _ _, Rel_t h⟩
    · unfold kE_clash kE_clash_18 kE_clash_19; rw [eE_Paper0 h1, xbd_eq, if_pos rfl]; exact if_pos rfl
    · unfold fM_clash fM_clash_19 fM_clash_20; rw [eM_Paper0 h1, xbd_eq, if_pos rfl, g0, xbd_eq, if_pos rfl]; rfl
  rcases oo_ix a2 (n := 9) (by decide) with h1 | ⟨b, hb, rfl⟩
  · refine Or.inr ⟨0, up2 Y 0 0 1, ?_, ?_, up2_at _ _ _ _, Rel_t h⟩
    · unfold kE_clash kE_clash_18 kE_clash_19; rw [eE_Paper ha, xbd_eq, if_neg n10, eE_Paper0 h1, xbd_eq, if_pos rfl]; exact if_pos rfl
    · unfold fM_clash fM_clash_19 fM_clash_20; rw [eM_Paper ha, xbd_eq, if_neg n10, eM_Paper0 h1, xbd_eq, if_pos rfl, g0, xbd_eq, if_pos rfl]; rfl
  refine Or.inl ⟨nI (cnt (bothP (Y 4) a b) 40), up2 Y 0 0 0, ?_, ?_, up2_at _ _ _ _, Rel_t h⟩
  · unfold fE_clash fE_clash_19; rw [eE_Paper ha, xbd_eq, if_neg n10, eE_Paper hb, xbd_eq, if_neg n10, me1, xbd_eq, xT_both (Rel_qT h).2.2.1 ha hb, xbd_eq]
  · unfold fM_clash fM_clash_20; rw [eM_Paper ha, xbd_eq, if_neg n10, eM_Paper hb, xbd_eq, if_neg n10, g11, xbd_eq, if_neg n10, xM_common ha hb, xbd_eq]; rfl
/-! ===== paperOf ===== -/
def pofP (pl : Int32) (y4 y7 : Nat → Int32) (c s : Nat) : Nat → Bool := fun p => bq pl && (bq (y4 (9 * c + p)) && decide (y7 p = nI s))
theorem xM_paperOf (Y : Mem) {c s : Nat} (hc : c < 40) : fM_paperOf (nI c) (nI s) Y = some (o2 (fN (pofP (Y 0 7) (Y 4) (Y 7) c s) 9)) := by
  unfold fM_paperOf
  refine srch (fun i hi => ?_) ?_ (fun _ => rfl)
  · unfold bM_paperOf_2 gM_paperOf_2 fM_paperOf_41
    rw [if_neg (show ¬ (9 : Int32) ≤ nI i from nI_ltc hi (by decide))]
    simp only [xlt_eq, ix9, nI_1]
    rw [xgd_pos (vi_ (show 9 * c + i < 360 by omega) (by decide)), cl_ (show 9 * c + i < 100000 by omega), xgd_pos (vi_ hi (by decide)), cl_ (show i < 100000 by omega)]
    unfold pofP
    by_cases e0 : Y 0 7 = 0
    · rw [if_pos e0, e0, bq_0]; rfl
    · rw [if_neg e0, bq_t.mpr e0]
      by_cases e1 : Y 4 (9 * c + i) = 0
      · rw [if_pos e1, e1, bq_0]; rfl
      · rw [if_neg e1, bq_t.mpr e1]
        by_cases e2 : Y 7 i = nI s
        · rw [if_pos e2, if_pos (by simp [e2])]
        · rw [if_neg e2, if_neg (by simp [e2])]
  · unfold bM_paperOf_2 gM_paperOf_2; exact if_pos (Int32.le_refl (nI 9))
theorem xT_paperOf {X Y : Mem} (h : Rel X Y) {c s : Nat} (hc : c < 40) (hs : s < 6) : fT_paperOf (nI c) (nI s) X = some (o2 (fN (pofP (Y 0 7) (Y 4) (Y 7) c s) 9)) := by
  have h3 := (Rel_qT h).2.2.1
  have h7 := (Rel_qP h).1.2.2.2.1
  unfold fT_paperOf
  refine srch (fun i hi => ?_) ?_ (fun _ => rfl)
  · unfold bT_paperOf_2 gT_paperOf_2 fT_paperOf_33
    rw [if_neg (show ¬ (9 : Int32) ≤ nI i from nI_ltc hi (by decide)), xgd_pos (vi_ hi (by decide)), cl_ (show i < 100000 by omega), xgd_pos (vi_ hc (by decide)), cl_ (show c < 100000 by omega), h3.1 c hc, xE_has (eY_lt _ _) (by omega), xbd_eq, eY_bit _ _ hi, xlt_eq, nI_1, h7 i hi]
    unfold pofP
    by_cases e0 : Y 0 7 = 0
    · rw [if_pos e0, if_neg (fun e => nIm1 (show s < 2 ^ 31 by omega) e.symm), e0, bq_0]; rfl
    · rw [if_neg e0, bq_t.mpr e0]
      by_cases e2 : Y 7 i = nI s
      · rw [if_pos e2]
        cases e1 : bq (Y 4 (9 * c + i)) with
        | false => rw [if_pos (by decide), if_neg (by simp)]
        | true => rw [if_neg (by decide), if_pos (by simp [e2])]
      · rw [if_neg e2, if_neg (by simp [e2])]
  · unfold bT_paperOf_2 gT_paperOf_2; exact if_pos (Int32.le_refl (nI 9))
theorem o2_m1 {o : Option Nat} {n : Nat} (hn : n < 2 ^ 31) (h : ∀ i, o = some i → i < n) : o2 o = -1 ↔ o = none := by
  cases o with
  | none => exact ⟨fun _ => rfl, fun _ => rfl⟩
  | some i => exact ⟨fun e => absurd e (nIm1 (Nat.lt_trans (h i rfl) hn)), fun e => by cases e⟩
/-! ===== where, leave, who ===== -/
theorem rel_S {X Y : Mem} (h : Rel X Y) : ∃ q pa, qS X Y q pa ∧ r16 (Y 0 7) q (Y 21) := by
  obtain ⟨q, pa, hT, hP, hB, hS, hO, hW, h16⟩ := h
  exact ⟨q, pa, hS, h16⟩
theorem ix144 (s k : Nat) : (144 : Int32) * nI s + nI k = nI (144 * s + k) := by
  show nI 144 * nI s + nI k = _
  rw [pk_mul, nI_add]
theorem xM_place {Y : Mem} {q pa : Nat → Nat → Nat} (hF : rF (Y 17) (Y 18) q pa) (hq : ∀ s k, s < 6 → k < 144 → q s k ≤ 40) {c s : Nat} (hc : c < 40) (hs : s < 6) : fM_place (nI c) (nI s) Y = some (o2 (fN (fun k => decide (q s k = c + 1)) 144)) := by
  unfold fM_place
  refine srch (fun i hi => ?_) ?_ (fun _ => rfl)
  · unfold bM_place_2 gM_place_2
    have hq1 := hq s i hs hi
    rw [if_neg (show ¬ (144 : Int32) ≤ nI i from nI_ltc hi (by decide)), xlt_eq, ix144, xgd_pos (vi_ (by omega) (by decide)), cl_ (show 144 * s + i < 100000 by omega), (hF s i hs hi).1, nI_1, xlt_eq, nI_1]
    by_cases e : q s i = c + 1
    · rw [if_pos (by rw [e]), if_pos (by simp [e])]
    · rw [if_neg (fun e9 => e ((nI_eq (by omega) (by omega)).mp e9)), if_neg (by simp [e])]
  · unfold bM_place_2 gM_place_2; exact if_pos (Int32.le_refl (nI 144))
theorem rS1_po {si pp po : Nat → Int32} {q pa : Nat → Nat} (h : rS1 si pp po q pa) {c : Nat} (hc : c < 40) : po c = o2 (fN (fun k => decide (q k = c + 1)) 144) := by
  rcases h.2.2 c hc with ⟨k, g1, g2, g3⟩ | ⟨g1, g2⟩
  · rw [fN_is g1 (by simp [g2]) (fun j hj => ?_)]
    · exact g3
    · have : q j ≠ c + 1 := fun e => by
        have := h.2.1 j k (by omega) g1 (by omega) (by omega)
        omega
      simp [this]
  · rw [fN_no (fun j hj => by simp [g1 j hj])]
    exact g2
theorem told_all : ∀ k, k < 144 → fE_seatNumber (nI k) = fM_told (nI k) := by decide +kernel
theorem told_some : ∀ k, k < 144 → (fM_told (nI k)).isSome = true := by decide +kernel
theorem sim_14 : Sm14 Rel := by
  intro X Y h a1 a2
  rcases oo_ix a1 (n := 40) (by decide) with h1 | ⟨c, hc, rfl⟩
  · refine Or.inr ⟨0, up2 Y 0 0 1, ?_, ?_, up2_at _ _ _ _, Rel_t h⟩
    · unfold kE_where kE_where_18 kE_where_19; rw [eE_Candidate0 h1, xbd_eq, if_pos rfl]; exact if_pos rfl
    · unfold fM_where fM_where_19 fM_where_20; rw [eM_Candidate0 h1, xbd_eq, if_pos rfl, g0, xbd_eq, if_pos rfl]; rfl
  rcases oo_ix a2 (n := 6) (by decide) with h1 | ⟨s, hs, rfl⟩
  · refine Or.inr ⟨0, up2 Y 0 0 1, ?_, ?_, up2_at _ _ _ _, Rel_t h⟩
    · unfold kE_where kE_where_18 kE_where_19; rw [eE_Candidate hc, xbd_eq, if_neg n10, eE_Session0 h1, xbd_eq, if_pos rfl]; exact if_pos rfl
    · unfold fM_where fM_where_19 fM_where_20; rw [eM_Candidate hc, xbd_eq, if_neg n10, eM_Session0 h1, xbd_eq, if_pos rfl, g0, xbd_eq, if_pos rfl]; rfl
  obtain ⟨q, pa, hS, -⟩ := rel_S h
  have hpo := rS1_po (hS.1 s hs) hc
  rw [seg_at _ hs] at hpo
  have hpl := xM_place (Y := up2 Y 0 0 0) hS.2 (fun s k hs hk => ((hS.1 s hs).1 k hk).1) hc hs
  have ht : ∃ t, fE_seatNumber (o2 (fN (fun k => decide (q s k = c + 1)) 144)) = some t ∧ fM_told (o2 (fN (fun k => decide (q s k = c + 1)) 144)) = some t := by
    cases ho : fN (fun k => decide (q s k = c + 1)) 144 with
    | none => exact ⟨-1, if_pos rfl, if_pos rfl⟩
    | some k =>
      have hk := (fN_some ho).1
      obtain ⟨t, ht⟩ := Option.isSome_iff_exists.mp (told_some k hk)
      exact ⟨t, (told_all k hk).trans ht, ht⟩
  obtain ⟨t, t1, t2⟩ := ht
  refine Or.inl ⟨t, up2 Y 0 0 0, ?_, ?_, up2_at _ _ _ _, Rel_t h⟩
  · unfold fE_where fE_where_19; rw [eE_Candidate hc, xbd_eq, if_neg n10, eE_Session hs, xbd_eq, if_neg n10, me1, xbd_eq, xgd_pos (vi_ hs (by decide)), xgd_pos (vi_ hc (by decide)), cl_ (show s < 100000 by omega), cl_ (show c < 100000 by omega), show (37 : Nat) + 1 + s = 38 + s by omega, hpo, t1, xbd_eq]
  · unfold fM_where fM_where_20; rw [eM_Candidate hc, xbd_eq, if_neg n10, eM_Session hs, xbd_eq, if_neg n10, g11, xbd_eq, if_neg n10, hpl, xbd_eq, t2, xbd_eq]; rfl
theorem Rel_S {X X' Y Y' : Mem} (h : Rel X Y) (hX : ∀ j, j < 24 ∨ 44 ≤ j → X' j = X j) (hY : ∀ j, j ≠ 0 → j ≠ 17 → j ≠ 18 → Y' j = Y j) (h0 : Y' 0 7 = Y 0 7) {q' pa' : Nat → Nat → Nat} (hS' : qS X' Y' q' pa') (h16 : Y 0 7 = 0 → ∀ s k, s < 6 → k < 144 → q' s k = 0) : Rel X' Y' := by
  obtain ⟨q, pa, hT, hP, hB, hS, hO, hW, g16⟩ := h
  exact ⟨q', pa', qT_c (fun j h1 h2 => hX j (by omega)) (fun j h1 h2 => hY j (by omega) (by omega) (by omega)) hT, qP_c (fun j hj => hX j (by omega)) h0 (hY 7 (by decide) (by decide) (by decide)) hP, qB_c (fun j h1 h2 => hX j (by omega)) (fun j h1 h2 => hY j (by omega) (by omega) (by omega)) hB, hS', qO_c (hX 45 (by omega)) (hX 46 (by omega)) (hY 19 (by decide) (by decide) (by decide)) (hY 20 (by decide) (by decide) (by decide)) hO, qW_c (fun j h1 h2 => hX j (by omega)) (hY 21 (by decide) (by decide) (by decide)) hW, by rw [h0, hY 21 (by decide) (by decide) (by decide)]; exact fun e => ⟨h16 e, (g16 e).2⟩⟩
