/-! ===== the class's planner, session by session ===== -/
def VX (Y : Mem) (s P A : Nat) : Prop := A = 0 ∨ (A &&& chS (Y 1) (Y 2) (Y 3) (Y 6) s P = A ∧ mtB (Y 1) (Y 4) (Y 6) A = true)
theorem chS_lt (y1 y2 y3 y6 : Nat → Int32) (s P : Nat) : chS y1 y2 y3 y6 s P < 2 ^ 9 := Nat.lt_of_le_of_lt Nat.and_le_left (nd_lt (sO_lt _ 9))
theorem chS_bit (y1 y2 y3 y6 : Nat → Int32) (s P p : Nat) : (chS y1 y2 y3 y6 s P).testBit p = (((decide (p < 9) && fitP y1 y2 y3 s p) && !P.testBit p) && (decide (p < 9) && decide (nd (befS y1 y6 p) P = 0))) := by
  unfold chS rdy fitS
  rw [Nat.testBit_and, nd_bit, sO_bit, sO_bit]
theorem chS_P (y1 y2 y3 y6 : Nat → Int32) (s P : Nat) : chS y1 y2 y3 y6 s P &&& P = 0 := by
  rw [and_z]; intro i
  rw [chS_bit]
  cases P.testBit i <;> simp
theorem sub_bit {A c p : Nat} (h : A &&& c = A) (hp : A.testBit p = true) : c.testBit p = true := by
  have : (A &&& c).testBit p = true := by rw [h]; exact hp
  rw [Nat.testBit_and, Bool.and_eq_true] at this
  exact this.2
theorem sub_of {A c : Nat} (h : ∀ p, A.testBit p = true → c.testBit p = true) : A &&& c = A := by
  apply Nat.eq_of_testBit_eq
  intro i
  rw [Nat.testBit_and]
  cases hA : A.testBit i with
  | false => rfl
  | true => rw [h i hA]; rfl
theorem VX_lt {Y : Mem} {s P A : Nat} (h : VX Y s P A) : A < 512 := by
  rcases h with rfl | ⟨h, -⟩
  · decide
  · rw [← h]; exact Nat.lt_of_le_of_lt Nat.and_le_right (chS_lt _ _ _ _ _ _)
theorem VX_H {Y : Mem} {s P A : Nat} (h : VX Y s P A) : A &&& heldS (Y 1) = A := by
  rcases h with rfl | ⟨h, -⟩
  · exact Nat.zero_and _
  · refine sub_of (fun p hp => ?_)
    have := sub_bit h hp
    rw [chS_bit, Bool.and_eq_true, Bool.and_eq_true, Bool.and_eq_true] at this
    obtain ⟨⟨⟨h1, h2⟩, -⟩, -⟩ := this
    unfold heldS
    rw [sO_bit, h1]
    unfold fitP at h2
    rw [Bool.and_eq_true] at h2
    rw [h2.1]; rfl
theorem VX_P {Y : Mem} {s P A : Nat} (h : VX Y s P A) : P &&& A = 0 := by
  rcases h with rfl | ⟨h, -⟩
  · exact Nat.and_zero _
  · rw [and_z]; intro i
    cases hA : A.testBit i with
    | false => rw [Bool.and_false]
    | true =>
      have := sub_bit h hA
      have h2 := and_z.mp (chS_P (Y 1) (Y 2) (Y 3) (Y 6) s P) i
      rw [this, Bool.true_and] at h2
      rw [h2]; rfl
theorem sub_le {a b : Nat} (h : a &&& b = a) : a ≤ b := by rw [← h]; exact Nat.and_le_right
theorem nIle {a b : Nat} (ha : a < 2 ^ 31) (hb : b < 2 ^ 31) : nI a ≤ nI b ↔ a ≤ b := nI_leI ha hb
theorem xP_add {M Y : Mem} (hTb : tbX Y 512 M) (h13 : ∀ x, x < 512 → M 13 x = nI (dig x)) {B : Nat → Nat} (h14 : ∀ x, x < 512 → M 14 x = nI (B x)) (hB : ∀ x, x < 512 → B x ≤ 2 ^ 30) {P s c : Nat} (hP : P < 512) (hc : c < 512) (hcP : c &&& P = 0) (hs : s < 6) (hBP : B P < 2 ^ 30) :
    ∃ (M' : Mem) (B' : Nat → Nat), fP_addMeetings (nI P) (nI s) (nI c) M = some M' ∧ (∀ j, j ≠ 14 → M' j = M j) ∧ (∀ x, x < 512 → M' 14 x = nI (B' x)) ∧ (∀ x, x < 512 → B' x ≤ B x) ∧ (∀ x, x < 512 → B' x ≠ B x → ∃ A, A ≠ 0 ∧ A &&& c = A ∧ mtB (Y 1) (Y 4) (Y 6) A = true ∧ P ||| A = x ∧ B' x = B P + 10077696 + s * dig A) ∧ (∀ A, A ≠ 0 → A &&& c = A → mtB (Y 1) (Y 4) (Y 6) A = true → P ||| A < 512 → B' (P ||| A) ≤ B P + 10077696 + s * dig A) := by
  have p30 : (2 : Nat) ^ 30 = 1073741824 := by decide
  have hrk : ∀ x, x < 512 → rk c x < 512 := fun x hx => Nat.lt_of_le_of_lt (cnt_le _ x) hx
  have h := xlp_inv (b := bP_addMeetings_13 (nI P) (nI s) (nI c)) (fun j (st : Int32 × Int32 × Mem) => ∃ (x : Nat) (L : Mem) (Bf : Nat → Nat), st = (nI x, nI (rk c x), L) ∧ x &&& c = x ∧ rk c x + j = rk c c ∧ (∀ j, j ≠ 14 → L j = M j) ∧ (∀ x, x < 512 → L 14 x = nI (Bf x)) ∧ (∀ x, x < 512 → Bf x ≤ B x) ∧ (∀ x, x < 512 → Bf x ≠ B x → ∃ A, A ≠ 0 ∧ A &&& c = A ∧ mtB (Y 1) (Y 4) (Y 6) A = true ∧ P ||| A = x ∧ Bf x = B P + 10077696 + s * dig A) ∧ (∀ A, x < A → A &&& c = A → mtB (Y 1) (Y 4) (Y 6) A = true → Bf (P ||| A) ≤ B P + 10077696 + s * dig A)) (fun t => ∃ (v w : Int32) (L : Mem) (Bf : Nat → Nat), t = (v, w, L) ∧ (∀ j, j ≠ 14 → L j = M j) ∧ (∀ x, x < 512 → L 14 x = nI (Bf x)) ∧ (∀ x, x < 512 → Bf x ≤ B x) ∧ (∀ x, x < 512 → Bf x ≠ B x → ∃ A, A ≠ 0 ∧ A &&& c = A ∧ mtB (Y 1) (Y 4) (Y 6) A = true ∧ P ||| A = x ∧ Bf x = B P + 10077696 + s * dig A) ∧ (∀ A, 0 < A → A &&& c = A → mtB (Y 1) (Y 4) (Y 6) A = true → Bf (P ||| A) ≤ B P + 10077696 + s * dig A)) (rk c c) ?_ (nI c, nI (rk c c), M) ⟨c, M, B, rfl, Nat.and_self c, rfl, fun _ _ => rfl, h14, fun _ _ => Nat.le_refl _, fun _ _ h => absurd rfl h, fun A hA hAc => absurd (sub_le hAc) (by omega)⟩
  · obtain ⟨t, t1, v, w, L, Bf, rfl, t2, t3, t4, t5, t6⟩ := h
    refine ⟨L, Bf, ?_, t2, t3, t4, t5, fun A h0 h1 h2 _ => t6 A (by omega) h1 h2⟩
    unfold fP_addMeetings
    have hpop : pop c 10 ≤ 9 := by rw [pop_ge (n := 9) hc (by decide)]; exact cnt_le _ 9
    rw [xJ_bit (by omega), xbd_eq, xlt_eq, sh_1 _ (by omega)]
    rw [show nI (2 ^ pop c 10) - 1 = nI (rk c c) by
      rw [rk_top hc]
      have : 0 < 2 ^ pop c 10 := Nat.two_pow_pos _
      obtain ⟨w, hw⟩ : ∃ w, 2 ^ pop c 10 = w + 1 := ⟨2 ^ pop c 10 - 1, by omega⟩
      rw [hw, sit1]; rfl]
    rw [t1, xbd_eq]; rfl
  · rintro j st hj ⟨x, L, Bf, rfl, hx, hrx, f1, f2, f3, f4, f5⟩
    dsimp only [bP_addMeetings_13, gP_addMeetings_13]
    have hxc : x ≤ c := sub_le hx
    have hx512 : x < 512 := by omega
    have hr512 := hrk x hx512
    by_cases h0 : rk c x = 0
    · have hx0 := rk_zero hx h0
      subst hx0
      exact Or.inl ⟨_, if_pos (by rw [h0]; decide), _, _, L, Bf, rfl, f1, f2, f3, f4, f5⟩
    · have hxp : 0 < x := by
        rcases Nat.eq_zero_or_pos x with e | e
        · subst e; exact absurd rfl h0
        · exact e
      refine Or.inr ⟨by omega, ?_⟩
      have hstep := rk_step hx hxp
      have hnext := prd_sub x c
      have hnlt := prd_lt (c := c) hxp
      have hpred := pred_ok x c
      have hxP : x &&& P = 0 := by
        rw [and_z]; intro i
        cases hi : x.testBit i with
        | false => rfl
        | true =>
          have := and_z.mp hcP i
          rw [sub_bit hx hi] at this; exact this
      have hgrow : P < P ||| x := grows (ch := fun _ => c) hcP (by omega) hx
      have hor : P ||| x < 512 := Nat.or_lt_two_pow (n := 9) hP hx512
      have hBfP : Bf P = B P := by
        refine Classical.byContradiction (fun hne => ?_)
        obtain ⟨A, a1, a2, -, a4, -⟩ := f4 P hP hne
        have := grows (ch := fun _ => c) (P := P) hcP a1 a2
        omega
      have hdl := dig_le x
      have hcl : s * dig x ≤ 5 * 2015539 := Nat.mul_le_mul (by omega) hdl
      have tail : ∀ (N : Mem) (Bn : Nat → Nat), (∀ j, j ≠ 14 → N j = M j) → (∀ x, x < 512 → N 14 x = nI (Bn x)) → (∀ x, x < 512 → Bn x ≤ B x) → (∀ x, x < 512 → Bn x ≠ B x → ∃ A, A ≠ 0 ∧ A &&& c = A ∧ mtB (Y 1) (Y 4) (Y 6) A = true ∧ P ||| A = x ∧ Bn x = B P + 10077696 + s * dig A) → (∀ A, x < A → A &&& c = A → mtB (Y 1) (Y 4) (Y 6) A = true → Bn (P ||| A) ≤ B P + 10077696 + s * dig A) → (mtB (Y 1) (Y 4) (Y 6) x = true → Bn (P ||| x) ≤ B P + 10077696 + s * dig x) →
          ∃ s', fP_addMeetings_73 (nI P) (nI s) (nI c) (nI x) (nI (rk c x)) N = some (.inr s') ∧ ∃ (x : Nat) (L : Mem) (Bf : Nat → Nat), s' = (nI x, nI (rk c x), L) ∧ x &&& c = x ∧ rk c x + (j + 1) = rk c c ∧ (∀ j, j ≠ 14 → L j = M j) ∧ (∀ x, x < 512 → L 14 x = nI (Bf x)) ∧ (∀ x, x < 512 → Bf x ≤ B x) ∧ (∀ x, x < 512 → Bf x ≠ B x → ∃ A, A ≠ 0 ∧ A &&& c = A ∧ mtB (Y 1) (Y 4) (Y 6) A = true ∧ P ||| A = x ∧ Bf x = B P + 10077696 + s * dig A) ∧ (∀ A, x < A → A &&& c = A → mtB (Y 1) (Y 4) (Y 6) A = true → Bf (P ||| A) ≤ B P + 10077696 + s * dig A) := by
        intro N Bn n1 n2 n3 n4 n5 n6
        unfold fP_addMeetings_73
        obtain ⟨w, hw⟩ : ∃ w, x = w + 1 := ⟨x - 1, by omega⟩
        have e1 : (nI x - 1) &&& nI c = nI ((x - 1) &&& c) := by rw [hw, sit1, nI_and]; rfl
        have e2 : nI (rk c x) + (-1) = nI (rk c ((x - 1) &&& c)) := by rw [hstep, sub1, sit1]
        rw [xlt_eq, xlt_eq, e1, e2]
        refine ⟨_, rfl, (x - 1) &&& c, N, Bn, rfl, hnext, by omega, n1, n2, n3, n4, fun A hA hAc hm => ?_⟩
        rcases Nat.lt_trichotomy A x with hl | hl | hl
        · have := hpred A hx hAc hl; omega
        · subst hl; exact n6 hm
        · exact n5 A hl hAc hm
      rw [if_neg (nI_nle (by omega) (by omega)), xgd_pos (vi_ hP (by decide)), xgd_pos (vi_ hx512 (by decide)), cl_ (show P < 100000 by omega), cl_ (show x < 100000 by omega), f2 P hP, hBfP, f1 13 (by decide), h13 x hx512]
      have ecost : nI (B P) + 10077696 + nI s * nI (dig x) = nI (B P + 10077696 + s * dig x) := by
        show nI (B P) + nI 10077696 + nI s * nI (dig x) = _
        rw [pk_mul, nI_add, nI_add]
      rw [ecost, xlt_eq, xP_meet (Y := Y) ⟨fun z hz => by rw [f1 15 (by decide)]; exact hTb.1 z hz, fun z hz => by rw [f1 16 (by decide)]; exact hTb.2 z hz⟩ hx512, xbd_eq]
      simp only [xlt_eq, nI_or, bz_0]
      rw [xgd_pos (vi_ hor (by decide)), cl_ (show P ||| x < 100000 by omega), f2 _ hor]
      have hBor : Bf (P ||| x) ≤ 2 ^ 30 := Nat.le_trans (f3 _ hor) (hB _ hor)
      cases hm : mtB (Y 1) (Y 4) (Y 6) x with
      | false =>
        rw [if_pos rfl]
        exact tail L Bf f1 f2 f3 f4 f5 (fun h => by rw [hm] at h; cases h)
      | true =>
        rw [if_neg (by decide)]
        by_cases hle : Bf (P ||| x) ≤ B P + 10077696 + s * dig x
        · rw [if_pos ((nIle (by omega) (by omega)).mpr hle)]
          exact tail L Bf f1 f2 f3 f4 f5 (fun _ => hle)
        · rw [if_neg (fun e9 => hle ((nIle (by omega) (by omega)).mp e9)), xgd_pos (vi_ hor (by decide))]
          refine tail (up2 L 14 (P ||| x) (nI (B P + 10077696 + s * dig x))) (un Bf (P ||| x) (B P + 10077696 + s * dig x)) (fun j hj => by rw [up2_ne hj]; exact f1 j hj) (fun z hz => ?_) (fun z hz => ?_) (fun z hz hne => ?_) (fun A hA hAc hm' => ?_) (fun _ => by rw [un_s]; exact Nat.le_refl _)
          · rw [up2_same]
            by_cases e : z = P ||| x
            · subst e; rw [pk_us, un_s]
            · rw [pk_un e, un_n e]; exact f2 z hz
          · by_cases e : z = P ||| x
            · subst e; rw [un_s]; have := f3 _ hor; omega
            · rw [un_n e]; exact f3 z hz
          · by_cases e : z = P ||| x
            · subst e; rw [un_s]; exact ⟨x, by omega, hx, hm, rfl, rfl⟩
            · rw [un_n e] at hne ⊢; exact f4 z hz hne
          · have h9 := f5 A hA hAc hm'
            by_cases e : P ||| A = P ||| x
            · rw [e, un_s]
              rw [e] at h9
              omega
            · rw [un_n e]; exact h9
theorem xP_use {M Y : Mem} {s : Nat} (hs : s < 6) (hTb : tbX Y 512 M) (h13 : ∀ x, x < 512 → M 13 x = nI (dig x)) (h17 : ∀ p, p < 9 → M 17 p = nI (befS (Y 1) (Y 6) p)) (hh : M 12 5 = nI (heldS (Y 1))) {B : Nat → Nat} (h14 : ∀ x, x < 512 → M 14 x = nI (B x)) (h : DPok (VX Y) (heldS (Y 1)) s B) :
    ∃ (M' : Mem) (B' : Nat → Nat), fP_useSession (nI s) (nI (fitS (Y 1) (Y 2) (Y 3) s)) M = some M' ∧ (∀ j, j ≠ 14 → M' j = M j) ∧ (∀ x, x < 512 → M' 14 x = nI (B' x)) ∧ DPok (VX Y) (heldS (Y 1)) (s + 1) B' := by
  have p30 : (2 : Nat) ^ 30 = 1073741824 := by decide
  have hHd : heldS (Y 1) < 512 := heldS_lt _
  generalize hHe : heldS (Y 1) = Hd at *
  have hsub : ∀ A, OkA (VX Y) A s → unA A s ≤ Hd := fun A hA => sub_le (unA_sub (Hd := Hd) (fun s P A hV => by rw [← hHe]; exact VX_H hV) hA)
  have hl := xlp_inv (b := bP_useSession_5 (nI s) (nI (fitS (Y 1) (Y 2) (Y 3) s))) (fun j (st : Int32 × Mem) => ∃ (L : Mem) (C : Nat → Nat), st = (nI (Hd + 1 - j) - 1, L) ∧ (∀ j, j ≠ 14 → L j = M j) ∧ (∀ x, x < 512 → L 14 x = nI (C x)) ∧ DPin (VX Y) Hd s B (Hd + 1 - j) C) (fun t => ∃ (v : Int32) (L : Mem) (C : Nat → Nat), t = (v, L) ∧ (∀ j, j ≠ 14 → L j = M j) ∧ (∀ x, x < 512 → L 14 x = nI (C x)) ∧ DPin (VX Y) Hd s B 0 C) (Hd + 1) ?_ (nI Hd, M) ⟨M, B, by rw [Nat.sub_zero, sit1], fun _ _ => rfl, h14, DPin_start (fun _ => Or.inl rfl) hsub h⟩
  · obtain ⟨t, t1, v, L, C, rfl, t2, t3, t4⟩ := hl
    refine ⟨L, C, ?_, t2, t3, DPin_end t4⟩
    unfold fP_useSession
    rw [xlt_eq, hh, t1, xbd_eq]; rfl
  · rintro j st hj ⟨L, C, rfl, f1, f2, f3⟩
    dsimp only [bP_useSession_5, gP_useSession_5]
    by_cases e : j = Hd + 1
    · refine Or.inl ⟨(nI (Hd + 1 - j) - 1, L), ?_, _, L, C, rfl, f1, f2, by rw [show Hd + 1 - j = 0 by omega] at f3; exact f3⟩
      rw [if_pos]
      rw [show Hd + 1 - j = 0 by omega]; decide
    · obtain ⟨w, hw⟩ : ∃ w, Hd + 1 - j = w + 1 := ⟨Hd - j, by omega⟩
      have hwH : w ≤ Hd := by omega
      have hw512 : w < 512 := by omega
      refine Or.inr ⟨by omega, ?_⟩
      rw [hw] at f3 ⊢
      have hb1 := (f3.2.2.1 Hd hHd).1
      have hb2 := (f3.2.2.1 w hw512).1
      have e10 : nI (C w) + 10077696 = nI (C w + 10077696) := by
        show nI (C w) + nI 10077696 = _
        rw [nI_add]
      have vH : vp_in (nI Hd) 512 := vi_ hHd (by decide)
      have cH : (nI Hd).toNatClampNeg = Hd := cl_ (by omega)
      have eH := f2 Hd hHd
      have ew := f2 w hw512
      have e12 : L 12 5 = nI Hd := by rw [f1 12 (by decide)]; exact hh
      rw [sit1, if_neg (nI_pos (by omega)), xgd_pos (vi_ hw512 (by decide)), cl_ (show w < 100000 by omega), e12, xlt_eq, xgd_pos vH, cH]
      have hiff : (L 14 Hd ≤ L 14 w + 10077696) ↔ C Hd ≤ C w + 10077696 := by
        rw [eH, ew, e10]; exact nIle (by omega) (by omega)
      unfold fP_useSession_47
      rw [show Hd + 1 - (j + 1) = w by omega]
      by_cases hle : C Hd ≤ C w + 10077696
      · rw [if_pos (hiff.mpr hle), xlt_eq, sub1]
        exact ⟨_, rfl, L, C, rfl, f1, f2, DPin_skip hHd h hwH f3 hle⟩
      · rw [if_neg (fun e9 => hle (hiff.mp e9)), xP_ready (y1 := Y 1) (y6 := Y 6) (fun p hp => by rw [f1 17 (by decide)]; exact h17 p hp) w, xbd_eq, nI_nd _ (show fitS (Y 1) (Y 2) (Y 3) s < 2 ^ 31 from Nat.lt_trans (sO_lt _ 9) (by decide)), nI_and]
        obtain ⟨N, C', a1, a2, a3, a4, a5, a6⟩ := xP_add (M := L) (Y := Y) ⟨fun z hz => by rw [f1 15 (by decide)]; exact hTb.1 z hz, fun z hz => by rw [f1 16 (by decide)]; exact hTb.2 z hz⟩ (fun z hz => by rw [f1 13 (by decide)]; exact h13 z hz) f2 (fun z hz => (f3.2.2.1 z hz).1) hw512 (chS_lt (Y 1) (Y 2) (Y 3) (Y 6) s w) (chS_P _ _ _ _ _ _) hs (by omega)
        show ∃ s', xbd (fP_addMeetings (nI w) (nI s) (nI (chS (Y 1) (Y 2) (Y 3) (Y 6) s w)) L) _ = _ ∧ _
        rw [a1, xbd_eq, xlt_eq, sub1]
        refine ⟨_, rfl, N, C', rfl, fun j hj => (a2 j hj).trans (f1 j hj), a3, DPin_do (ch := chS (Y 1) (Y 2) (Y 3) (Y 6) s) (mt := fun A => mtB (Y 1) (Y 4) (Y 6) A = true) hHd (fun P => chS_P _ _ _ _ _ _) (fun P A => Iff.rfl) (fun s P A hV => VX_lt hV) h hwH f3 hle a4 a5 a6⟩
theorem xP_least {X Y : Mem} (hT : qT X Y) (h8 : r8 (X 13) (X 15 0) (X 16 0)) : ∃ (M' : Mem) (B' : Nat → Nat), fP_leastCost X = some (nI (B' (heldS (Y 1))), M') ∧ (∀ j, j ≠ 12 → j ≠ 14 → j ≠ 15 → j ≠ 16 → j ≠ 17 → M' j = X j) ∧ M' 15 0 = 0 ∧ M' 16 0 = 0 ∧ DPok (VX Y) (heldS (Y 1)) 6 B' := by
  have hHd : heldS (Y 1) < 512 := heldS_lt _
  have f0 : ∀ j, j ≠ 12 → up2 X 12 5 (nI (heldS (Y 1))) j = X j := fun j hj => up2_ne hj
  obtain ⟨M1, g1, g2, g3, g4⟩ := xP_gather (X := up2 X 12 5 (nI (heldS (Y 1)))) (Y := Y) (qT_c (fun j h1 h2 => f0 j (by omega)) (fun _ _ _ => rfl) hT) (by rw [f0 15 (by decide)]; exact h8.2.1) (by rw [f0 16 (by decide)]; exact h8.2.2) (up2_at _ _ _ _)
  generalize hM2 : up2 (upA M1 14 512 1073741824) 14 ((0 : Int32).toNatClampNeg) 0 = M2
  have f2 : ∀ j, j ≠ 14 → M2 j = M1 j := fun j hj => by rw [← hM2, up2_ne hj, upA_ne hj]
  have h14 : ∀ x, x < 512 → M2 14 x = nI (if x = 0 then 0 else 2 ^ 30) := by
    intro x hx
    rw [← hM2, up2_same]
    by_cases e : x = 0
    · subst e; rw [if_pos rfl]; rfl
    · rw [if_neg e, show (0 : Int32).toNatClampNeg = 0 from rfl, pk_un e, upA_in hx]; rfl
  have hDP0 : DPok (VX Y) (heldS (Y 1)) 0 (fun x => if x = 0 then 0 else 2 ^ 30) := by
    refine ⟨fun x hx => ?_, fun A _ => Or.inl ?_⟩
    · dsimp only
      by_cases e : x = 0
      · subst e
        exact ⟨by rw [if_pos rfl]; decide, fun _ => ⟨fun _ => 0, fun s hs => absurd hs (Nat.not_lt_zero s), rfl, rfl⟩⟩
      · rw [if_neg e]; exact ⟨Nat.le_refl _, fun h => absurd h (Nat.lt_irrefl _)⟩
    · show (if (0 : Nat) = 0 then 0 else 2 ^ 30) ≤ _
      rw [if_pos rfl]; exact Nat.zero_le _
  have hl := xlp_inv (b := bP_leastCost_31) (fun s (st : Int32 × Mem) => ∃ (L : Mem) (C : Nat → Nat), st = (nI s, L) ∧ (∀ j, j ≠ 14 → L j = M2 j) ∧ (∀ x, x < 512 → L 14 x = nI (C x)) ∧ DPok (VX Y) (heldS (Y 1)) s C) (fun t => ∃ (v : Int32) (L : Mem) (C : Nat → Nat), t = (v, L) ∧ (∀ j, j ≠ 14 → L j = M2 j) ∧ (∀ x, x < 512 → L 14 x = nI (C x)) ∧ DPok (VX Y) (heldS (Y 1)) 6 C) 6 ?_ (0, M2) ⟨M2, _, rfl, fun _ _ => rfl, h14, hDP0⟩
  · obtain ⟨t, t1, v, L, C, rfl, t2, t3, t4⟩ := hl
    have fr : ∀ j, j ≠ 14 → L j = M1 j := fun j hj => (t2 j hj).trans (f2 j hj)
    have hh : L 12 5 = nI (heldS (Y 1)) := by rw [fr 12 (by decide), g4 12 (by decide) (by decide) (by decide)]; exact up2_at _ _ _ _
    refine ⟨L, C, ?_, fun j h1 h2 h3 h4 h5 => by rw [fr j h2, g4 j h3 h4 h5, f0 j h1], ?_, ?_, t4⟩
    · unfold fP_leastCost
      rw [xT_held (y1 := Y 1) (fun p hp => (hT.1 p hp).1), xbd_eq, xlt_eq, g1, xbd_eq, xlt_eq, xgd_pos (show vp_in 0 512 from vi_ (j := 0) (by decide) (by decide)), xlt_eq, hM2, t1, xbd_eq]
      unfold fP_leastCost_53
      dsimp only
      rw [xlt_eq, hh, xgd_pos (vi_ hHd (by decide)), cl_ (by omega), t3 _ hHd]
    · rw [fr 15 (by decide), g2.1 0 (by decide), orT_0]; rfl
    · rw [fr 16 (by decide), g2.2 0 (by decide), orT_0]; rfl
  · rintro s st hs ⟨L, C, rfl, f1, f3, f4⟩
    dsimp only [bP_leastCost_31, gP_leastCost_31]
    by_cases e : s = 6
    · subst e
      exact Or.inl ⟨_, if_pos (Int32.le_refl (nI 6)), _, L, C, rfl, f1, f3, f4⟩
    · have hs' : s < 6 := by omega
      refine Or.inr ⟨hs', ?_⟩
      have fr : ∀ j, j ≠ 14 → L j = M1 j := fun j hj => (f1 j hj).trans (f2 j hj)
      have hTL : qT L Y := qT_c (fun j h1 h2 => by rw [fr j (by omega), g4 j (by omega) (by omega) (by omega), f0 j (by omega)]) (fun _ _ _ => rfl) hT
      obtain ⟨N, C', a1, a2, a3, a4⟩ := xP_use (M := L) (Y := Y) hs' ⟨fun z hz => by rw [fr 15 (by decide)]; exact g2.1 z hz, fun z hz => by rw [fr 16 (by decide)]; exact g2.2 z hz⟩ (fun z hz => by rw [fr 13 (by decide), g4 13 (by decide) (by decide) (by decide), f0 13 (by decide)]; exact h8.1 z hz) (fun p hp => by rw [fr 17 (by decide)]; exact g3 p hp) (by rw [fr 12 (by decide), g4 12 (by decide) (by decide) (by decide)]; exact up2_at _ _ _ _) f3 f4
      rw [if_neg (show ¬ (6 : Int32) ≤ nI s from nI_ltc hs' (by decide)), xT_fit hTL hs', xbd_eq, a1, xbd_eq, xlt_eq, nI_1]
      exact ⟨_, rfl, N, C', rfl, fun j hj => (a2 j hj).trans (f1 j hj), a3, a4⟩
