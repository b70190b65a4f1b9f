/-! ===== no plan, no seats, no watches ===== -/
theorem upA_ne {M : Mem} {k n j : Nat} {v : Int32} (h : j ≠ k) : upA M k n v j = M j := if_neg h
theorem upA_in {M : Mem} {k n i : Nat} {v : Int32} (h : i < n) : upA M k n v k i = v := by
  unfold upA; rw [if_pos rfl, if_pos h]
theorem forg_ne {Y : Mem} {j : Nat} (h0 : j ≠ 0) (h1 : j ≠ 17) (h2 : j ≠ 21) : forg Y j = Y j := by
  unfold forg; rw [upA_ne h2, upA_ne h1, up2_ne h0]
theorem forg_17 {Y : Mem} {i : Nat} (h : i < 864) : forg Y 17 i = 0 := by
  unfold forg; rw [upA_ne (by decide), upA_in h]
theorem forg_21 {Y : Mem} {i : Nat} (h : i < 240) : forg Y 21 i = 0 := by
  unfold forg; rw [upA_in h]
theorem forg_07 (Y : Mem) : forg Y 0 7 = 0 := rfl
theorem rS1_ext {si pp po : Nat → Int32} {q q' pa : Nat → Nat} (h : rS1 si pp po q pa) (e : ∀ k, k < 144 → q' k = q k) : rS1 si pp po q' pa := by
  obtain ⟨h1, h2, h3⟩ := h
  refine ⟨fun k hk => by rw [e k hk]; exact h1 k hk, fun k k' hk hk' hn h => ?_, fun c hc => ?_⟩
  · rw [e k hk] at hn h; rw [e k' hk'] at h; exact h2 k k' hk hk' hn h
  · rcases h3 c hc with ⟨k, g1, g2, g3⟩ | ⟨g1, g2⟩
    · exact Or.inl ⟨k, g1, by rw [e k g1]; exact g2, g3⟩
    · exact Or.inr ⟨fun k hk => by rw [e k hk]; exact g1 k hk, g2⟩
def z2 : Nat → Nat → Nat := fun _ _ => 0
theorem rS_z {si pp po : Nat → Nat → Int32} {q pa : Nat → Nat → Nat} (h : rS si pp po q pa) (hz : ∀ s c, s < 6 → c < 40 → po s c = -1) : rS si pp po z2 pa := by
  intro s hs
  refine rS1_ext (h s hs) (fun k hk => ?_)
  show 0 = q s k
  cases hq : q s k with
  | zero => rfl
  | succ c =>
    exfalso
    have h1 := ((h s hs).1 k hk).1
    rcases (h s hs).2.2 c (by omega) with ⟨k', a1, a2, a3⟩ | ⟨a1, a2⟩
    · rw [hz s c hs (by omega)] at a3; exact nIm1 (by omega) a3.symm
    · exact a1 k hk hq
theorem xR_clear {X : Mem} {q pa : Nat → Nat → Nat} (h : qC X q pa) : ∃ X', fR_clear X = some X' ∧ qC X' z2 pa ∧ (∀ j, j < 24 ∨ 44 ≤ j → X' j = X j) := by
  have inner : ∀ (i : Nat) (M : Mem), i < 6 → (∃ q', qC M q' pa) → (∀ j, j < 24 ∨ 44 ≤ j → M j = X j) → (∀ t c, t < i → c < 40 → M (38 + t) c = -1) →
      ∃ r, xlp (bR_clear_10 (nI i)) (0, M) = some r ∧ ((∃ q', qC r.2 q' pa) ∧ (∀ j, j < 24 ∨ 44 ≤ j → r.2 j = X j) ∧ (∀ t c, t < i + 1 → c < 40 → r.2 (38 + t) c = -1)) := by
    intro i M hi hq hf hz
    refine xlp_inv (fun c st => st.1 = nI c ∧ (∃ q', qC st.2 q' pa) ∧ (∀ j, j < 24 ∨ 44 ≤ j → st.2 j = X j) ∧ (∀ t c, t < i → c < 40 → st.2 (38 + t) c = -1) ∧ (∀ d, d < c → st.2 (38 + i) d = -1)) _ 40 ?_ (0, M) ⟨rfl, hq, hf, hz, fun d hd => absurd hd (Nat.not_lt_zero d)⟩
    rintro c ⟨v, N⟩ hc ⟨e1, ⟨q', hq'⟩, hf', hz', hd'⟩
    dsimp only at e1 hq' hf' hz' hd'
    subst e1
    dsimp only [bR_clear_10, gR_clear_10]
    by_cases hcc : c = 40
    · subst hcc
      refine Or.inl ⟨_, if_pos (Int32.le_refl (nI 40)), ⟨q', hq'⟩, hf', fun t d ht hd => ?_⟩
      by_cases e : t = i
      · subst e; exact hd' d hd
      · exact hz' t d (by omega) hd
    · refine Or.inr ⟨by omega, ?_⟩
      have hc' : c < 40 := by omega
      rw [if_neg (show ¬ (40 : Int32) ≤ nI c from nI_ltc hc' (by decide)), xgd_pos (vi_n hi (by decide)), xgd_pos (vi_n hc' (by decide)), nI_clamp (show i < 2 ^ 31 by omega), nI_clamp (show c < 2 ^ 31 by omega)]
      have h3 := (hq' i hi).2.2 c hc'
      rw [seg_at _ hi] at h3
      rcases h3 with ⟨k, a1, a2, a3⟩ | ⟨a1, a2⟩
      · obtain ⟨X', b1, b2, b3, b4, b5⟩ := xR_vacate hq' hi a1
        rw [a3, b1, xbd_eq, xlt_eq, nI_1]
        refine ⟨_, rfl, rfl, ⟨_, b2⟩, fun j hj => (b3 j hj).trans (hf' j hj), fun t d ht hd => b4 t d (by omega) (hz' t d ht hd), fun d hd => ?_⟩
        by_cases e : d = c
        · subst e; exact b5 d hc' a3
        · exact b4 i d hi (hd' d (by omega))
      · rw [a2, xR_vac0, xbd_eq, xlt_eq, nI_1]
        refine ⟨_, rfl, rfl, ⟨_, hq'⟩, hf', hz', fun d hd => ?_⟩
        by_cases e : d = c
        · subst e; exact a2
        · exact hd' d (by omega)
  have outer : ∃ r, xlp bR_clear_2 (0, X) = some r ∧ ((∃ q', qC r.2 q' pa) ∧ (∀ j, j < 24 ∨ 44 ≤ j → r.2 j = X j) ∧ (∀ t c, t < 6 → c < 40 → r.2 (38 + t) c = -1)) := by
    refine xlp_inv (fun i st => st.1 = nI i ∧ (∃ q', qC st.2 q' pa) ∧ (∀ j, j < 24 ∨ 44 ≤ j → st.2 j = X j) ∧ (∀ t c, t < i → c < 40 → st.2 (38 + t) c = -1)) _ 6 ?_ (0, X) ⟨rfl, ⟨q, h⟩, fun _ _ => rfl, fun t c ht => absurd ht (Nat.not_lt_zero t)⟩
    rintro i ⟨v, N⟩ hi ⟨e1, hq', hf', hz'⟩
    dsimp only at e1 hq' hf' hz'
    subst e1
    dsimp only [bR_clear_2, gR_clear_2]
    by_cases hcc : i = 6
    · subst hcc
      exact Or.inl ⟨_, if_pos (Int32.le_refl (nI 6)), hq', hf', hz'⟩
    · have hi6 : i < 6 := by omega
      refine Or.inr ⟨by omega, ?_⟩
      rw [if_neg (show ¬ (6 : Int32) ≤ nI i from nI_ltc hi6 (by decide))]
      obtain ⟨r, a1, a2, a3, a4⟩ := inner i N (by omega) hq' hf' hz'
      rw [a1, xbd_eq]
      unfold fR_clear_35
      rw [xlt_eq, nI_1]
      exact ⟨_, rfl, rfl, a2, a3, a4⟩
  obtain ⟨r, a1, ⟨q', a2⟩, a3, a4⟩ := outer
  unfold fR_clear
  rw [a1, xbd_eq]
  exact ⟨_, rfl, rS_z a2 (fun s c hs hc => by rw [seg_at _ hs]; exact a4 s c hs hc), a3⟩
def ocl (X : Mem) : Nat → Mem
  | 0 => X
  | n + 1 => upA (ocl X n) (48 + n) 4 0
theorem ocl_ne (X : Mem) {j : Nat} : ∀ n, n ≤ 6 → (j < 48 ∨ 54 ≤ j) → ocl X n j = X j
  | 0, _, _ => rfl
  | n + 1, hn, h => by
    show upA (ocl X n) (48 + n) 4 0 j = _
    rw [upA_ne (by omega)]; exact ocl_ne X n (by omega) h
theorem ocl_in (X : Mem) {s r : Nat} (hr : r < 4) : ∀ n, s < n → ocl X n (48 + s) r = 0
  | 0, h => absurd h (Nat.not_lt_zero s)
  | n + 1, h => by
    show upA (ocl X n) (48 + n) 4 0 (48 + s) r = 0
    by_cases e : s = n
    · subst e; exact upA_in hr
    · rw [upA_ne (by omega)]; exact ocl_in X hr n (by omega)
theorem xO_clear (X : Mem) : fO_clear X = some (ocl X 6) := by
  unfold fO_clear
  have h := xlp_run (b := bO_clear_2) (r := (nI 6, ocl X 6)) (fun i => (nI i, ocl X i)) 6 (fun i hi => by
    dsimp only [bO_clear_2, gO_clear_2]
    rw [if_neg (show ¬ (6 : Int32) ≤ nI i from nI_ltc hi (by decide)), xgd_pos (vi_n hi (by decide)), nI_clamp (show i < 2 ^ 31 by omega)]
    simp only [xlt_eq, nI_1]; rfl) (by dsimp only [bO_clear_2, gO_clear_2]; exact if_pos (Int32.le_refl (nI 6))) 0 (Nat.zero_le _)
  rw [show ((0 : Int32), X) = (nI 0, ocl X 0) from rfl, h]
  rfl
theorem sO_z {P : Nat → Bool} : ∀ {n : Nat}, (∀ i, i < n → P i = false) → sO P n = 0
  | 0, _ => rfl
  | n + 1, h => by
    show wit (sO P n) n (P n) = 0
    rw [sO_z (fun i hi => h i (Nat.lt_succ_of_lt hi)), h n (Nat.lt_succ_self n)]
    exact wit_new (Nat.two_pow_pos n)
theorem r15_z {X Y : Mem} (h : ∀ s r, s < 6 → r < 4 → X (48 + s) r = 0) (hY : ∀ k, k < 240 → Y 21 k = 0) : qW X Y := by
  refine ⟨fun s r hs hr => ?_, fun k hk => Or.inl (hY k hk), fun s i hs hi r r' hr hr' h1 => absurd (hY _ (by omega)) h1⟩
  rw [seg_at _ hs, h s r hs hr]
  unfold wY
  rw [sO_z (fun i hi => by rw [hY _ (by omega)]; exact bq_0)]
  rfl
theorem usd0 (y7 : Nat → Int32) : usd 0 y7 = 0 := cnt_0 (fun s _ => by
  rw [show (fun p => bq 0 && decide (y7 p = nI s)) = (fun _ => false) from by funext p; rw [bq_0]; rfl]
  rfl)
theorem drop_ok {X Y : Mem} (h : Rel X Y) : ∃ X', fE_dropPlan X = some X' ∧ Rel X' (forg Y) := by
  obtain ⟨q, pa, hT, hP, hB, hS, hO, hW, h16⟩ := h
  have hpl := hP.1.1
  have hh := hP.1.2.1
  unfold fE_dropPlan
  rw [hh]
  rcases hpl with e | e
  · rw [if_pos e]
    obtain ⟨z1, z2'⟩ := h16 e
    refine ⟨X, rfl, q, pa, qT_c (fun _ _ _ => rfl) (fun j h1 h2 => forg_ne (by omega) (by omega) (by omega)) hT, qP_c (fun _ _ => rfl) (by rw [forg_07, e]) (forg_ne (by decide) (by decide) (by decide)) hP, qB_c (fun _ _ _ => rfl) (fun j h1 h2 => forg_ne (by omega) (by omega) (by omega)) hB, ⟨hS.1, fun s k hs hk => ?_⟩, qO_c rfl rfl (forg_ne (by decide) (by decide) (by decide)) (forg_ne (by decide) (by decide) (by decide)) hO, r15_z (fun s r hs hr => ?_) (fun k hk => forg_21 hk), fun _ => ⟨z1, fun k hk => forg_21 hk⟩⟩
    · rw [forg_17 (by omega), z1 s k hs hk]
      exact ⟨rfl, fun h => absurd rfl h⟩
    · have := hW.1 s r hs hr
      rw [seg_at _ hs] at this
      rw [this]
      unfold wY
      rw [sO_z (fun i hi => by rw [z2' _ (by omega)]; exact bq_0)]
      rfl
  · rw [if_neg (by rw [e]; decide)]
    unfold fT_forgetPlan
    simp only [xlt_eq, xbd_eq]
    have hC : qC (upA (up2 (up2 X 1 7 0) 1 8 0) 11 9 (-1)) q pa := by
      have e9 : ∀ j, 24 ≤ j → j < 44 → upA (up2 (up2 X 1 7 0) 1 8 0) 11 9 (-1) j = X j := fun j h1 h2 => by rw [upA_ne (by omega), up2_ne (by omega), up2_ne (by omega)]
      show rS _ _ _ _ _
      rw [seg_eq (X := X) (fun j h1 h2 => e9 j (by omega) (by omega)), seg_eq (X := X) (fun j h1 h2 => e9 j (by omega) (by omega)), seg_eq (X := X) (fun j h1 h2 => e9 j (by omega) (by omega))]
      exact hS.1
    obtain ⟨X1, a1, a2, a3⟩ := xR_clear hC
    rw [a1, xbd_eq, xO_clear, xbd_eq]
    have fr : ∀ j, j ≠ 1 → j ≠ 11 → (j < 24 ∨ (44 ≤ j ∧ j < 48) ∨ 54 ≤ j) → ocl X1 6 j = X j := fun j h1 h2 h3 => by
      rw [ocl_ne X1 6 (by decide) (by omega), a3 j (by omega), upA_ne h2, up2_ne h1, up2_ne h1]
    refine ⟨_, rfl, z2, pa, qT_c (fun j h1 h2 => fr j (by omega) (by omega) (by omega)) (fun j h1 h2 => forg_ne (by omega) (by omega) (by omega)) hT, ⟨⟨Or.inl rfl, ?_, ?_, fun p hp => ?_, fun h => absurd rfl h⟩, ?_⟩, qB_c (fun j h1 h2 => fr j (by omega) (by omega) (by omega)) (fun j h1 h2 => forg_ne (by omega) (by omega) (by omega)) hB, ⟨?_, fun s k hs hk => ?_⟩, qO_c (fr 45 (by decide) (by decide) (by decide)) (fr 46 (by decide) (by decide) (by decide)) (forg_ne (by decide) (by decide) (by decide)) (forg_ne (by decide) (by decide) (by decide)) hO, r15_z (fun s r hs hr => ocl_in X1 hr 6 hs) (fun k hk => forg_21 hk), fun _ => ⟨fun _ _ _ _ => rfl, fun k hk => forg_21 hk⟩⟩
    · rw [ocl_ne X1 6 (by decide) (by decide), a3 1 (by decide)]; rfl
    · rw [ocl_ne X1 6 (by decide) (by decide), a3 1 (by decide), forg_07, usd0]; rfl
    · rw [ocl_ne X1 6 (by decide) (by decide), a3 11 (by decide), upA_in hp, forg_07, if_pos rfl]
    · rw [fr 13 (by decide) (by decide) (by decide), fr 15 (by decide) (by decide) (by decide), fr 16 (by decide) (by decide) (by decide)]; exact hP.2
    · have e9 : ∀ j, 24 ≤ j → j < 44 → ocl X1 6 j = X1 j := fun j h1 h2 => ocl_ne X1 6 (by decide) (by omega)
      rw [seg_eq (X := X1) (fun j h1 h2 => e9 j (by omega) (by omega)), seg_eq (X := X1) (fun j h1 h2 => e9 j (by omega) (by omega)), seg_eq (X := X1) (fun j h1 h2 => e9 j (by omega) (by omega))]
      exact a2
    · rw [forg_17 (by omega)]
      exact ⟨rfl, fun h => absurd rfl h⟩
theorem Rel_t {X Y : Mem} {t : Int32} (h : Rel X Y) : Rel X (up2 Y 0 0 t) := by
  obtain ⟨q, pa, hT, hP, hB, hS, hO, hW, h16⟩ := h
  exact ⟨q, pa, hT, hP, hB, hS, hO, hW, h16⟩
