/-! ===== loops by what they keep ===== -/
theorem xlp_inv {σ ρ : Type} {b : σ → Option (ρ ⊕ σ)} (P : Nat → σ → Prop) (Post : ρ → Prop) (K : Nat) (h : ∀ i s, i ≤ K → P i s → (∃ r, b s = some (.inl r) ∧ Post r) ∨ (i < K ∧ ∃ s', b s = some (.inr s') ∧ P (i + 1) s')) : ∀ s, P 0 s → ∃ r, xlp b s = some r ∧ Post r := by
  have key : ∀ d i s, i + d = K → P i s → ∃ r, xlp b s = some r ∧ Post r := by
    intro d
    induction d with
    | zero =>
      intro i s hi hp
      rcases h i s (by omega) hp with ⟨r, e, hr⟩ | ⟨h1, -⟩
      · exact ⟨r, xlp_end e, hr⟩
      · omega
    | succ d ih =>
      intro i s hi hp
      rcases h i s (by omega) hp with ⟨r, e, hr⟩ | ⟨h1, s', e, hp'⟩
      · exact ⟨r, xlp_end e, hr⟩
      · obtain ⟨r, e2, hr⟩ := ih (i + 1) s' (by omega) hp'
        exact ⟨r, by rw [xlp_go e]; exact e2, hr⟩
  intro s hp
  exact key K 0 s (by omega) hp
/-! ===== what relates a desk's memory and the reference's ===== -/
def isB (x : Int32) : Prop := x = 0 ∨ x = 1
def bq (x : Int32) : Bool := !decide (x = 0)
theorem bq_bz (z : Bool) : bq (bz z) = z := by cases z <;> decide
theorem isB_bz (z : Bool) : isB (bz z) := bz_01 z
theorem isB_bq {x : Int32} (h : isB x) : x = bz (bq x) := by rcases h with rfl | rfl <;> decide
theorem bq_0 : bq 0 = false := by decide
theorem bq_t {x : Int32} : bq x = true ↔ x ≠ 0 := by unfold bq; simp
theorem bq_f {x : Int32} : bq x = false ↔ x = 0 := by unfold bq; simp
def seg (X : Mem) (a n : Nat) : Mem := fun s => if s < n then X (a + s) else fun _ => 0
theorem seg_at (X : Mem) {a n s : Nat} (h : s < n) : seg X a n s = X (a + s) := if_pos h
theorem seg_eq {X X' : Mem} {a n : Nat} (h : ∀ j, a ≤ j → j < a + n → X' j = X j) : seg X' a n = seg X a n := by
  funext s
  by_cases hs : s < n
  · rw [seg_at _ hs, seg_at _ hs, h _ (by omega) (by omega)]
  · unfold seg; rw [if_neg hs, if_neg hs]
theorem seg_up (X : Mem) {a n s i : Nat} {v : Int32} (h : s < n) : seg (up2 X (a + s) i v) a n = up2 (seg X a n) s i v := by
  funext t
  by_cases ht : t < n
  · rw [seg_at _ ht]
    by_cases e : t = s
    · subst e; rw [up2_same, up2_same, seg_at _ ht]
    · rw [up2_ne (by omega), up2_ne e, seg_at _ ht]
  · rw [up2_ne (by omega)]; unfold seg; rw [if_neg ht, if_neg ht]
def eY (y4 : Nat → Int32) (c : Nat) : Nat := sO (fun p => bq (y4 (9 * c + p))) 9
def rY (y6 : Nat → Int32) (k b : Nat) : Nat := sO (fun a => bq (y6 (81 * k + 9 * a + b))) 9
def oY (y20 : Nat → Int32) (i : Nat) : Nat := sO (fun p => bq (y20 (9 * i + p))) 9
def wY (y21 : Nat → Int32) (s r : Nat) : Nat := sO (fun i => bq (y21 (40 * s + 10 * r + i))) 10
def anyB (P : Nat → Bool) : Nat → Bool
  | 0 => false
  | n + 1 => anyB P n || P n
theorem anyB_t {P : Nat → Bool} : ∀ {n : Nat}, anyB P n = true ↔ ∃ i, i < n ∧ P i = true
  | 0 => ⟨fun h => Bool.noConfusion h, fun ⟨i, h, _⟩ => absurd h (Nat.not_lt_zero i)⟩
  | n + 1 => by
    show (anyB P n || P n) = true ↔ _
    rw [Bool.or_eq_true, anyB_t]
    constructor
    · rintro (⟨i, h1, h2⟩ | h)
      · exact ⟨i, by omega, h2⟩
      · exact ⟨n, by omega, h⟩
    · rintro ⟨i, h1, h2⟩
      by_cases e : i = n
      · subst e; exact Or.inr h2
      · exact Or.inl ⟨i, by omega, h2⟩
theorem anyB_ext {P Q : Nat → Bool} : ∀ {n : Nat}, (∀ i, i < n → P i = Q i) → anyB P n = anyB Q n
  | 0, _ => rfl
  | n + 1, h => by
    show (anyB P n || P n) = (anyB Q n || Q n)
    rw [anyB_ext (fun i hi => h i (Nat.lt_succ_of_lt hi)), h n (Nat.lt_succ_self n)]
def usd (pl : Int32) (y7 : Nat → Int32) : Nat := cnt (fun s => anyB (fun p => bq pl && decide (y7 p = nI s)) 9) 6
def dig9 (set : Nat) : Nat → Nat
  | 0 => 0
  | p + 1 => dig9 set p + (set.testBit p).toNat * 6 ^ (8 - p)
abbrev dig (set : Nat) : Nat := dig9 set 9
def r1 (x2 y1 : Nat → Int32) : Prop := ∀ p, p < 9 → x2 p = y1 p ∧ ∃ n, n ≤ 300 ∧ y1 p = nI n
def r2 (x3 y2 : Nat → Int32) : Prop := ∀ s, s < 6 → x3 s = y2 s ∧ ∃ n, n ≤ 300 ∧ y2 s = nI n
def r3 (x4 y4 : Nat → Int32) : Prop := (∀ c, c < 40 → x4 c = nI (eY y4 c)) ∧ ∀ k, k < 360 → isB (y4 k)
def r4 (x5 y5 : Nat → Int32) : Prop := ∀ c, c < 40 → x5 c = y5 c ∧ isB (y5 c)
def r5 (x7 x8 x9 y6 : Nat → Int32) : Prop := (∀ b, b < 9 → x7 b = nI (rY y6 0 b)) ∧ (∀ b, b < 9 → x8 b = nI (rY y6 1 b)) ∧ (∀ b, b < 9 → x9 b = nI (rY y6 2 b)) ∧ (∀ k, k < 243 → isB (y6 k)) ∧ (∀ k, k < 2 → ∀ a b, a < 9 → b < 9 → y6 (81 * k + 9 * a + b) = y6 (81 * k + 9 * b + a)) ∧ (∀ k, k < 3 → ∀ a, a < 9 → y6 (81 * k + 9 * a + a) = 0)
def r6 (x10 y3 : Nat → Int32) : Prop := ∀ p, p < 9 → x10 p = y3 p ∧ (y3 p = -1 ∨ ∃ s, s < 6 ∧ y3 p = nI s)
def r7 (h u : Int32) (x11 : Nat → Int32) (pl : Int32) (y7 : Nat → Int32) : Prop := isB pl ∧ h = pl ∧ u = nI (usd pl y7) ∧ (∀ p, p < 9 → x11 p = if pl = 0 then -1 else y7 p) ∧ (pl ≠ 0 → ∀ p, p < 9 → y7 p = -1 ∨ ∃ s, s < 6 ∧ y7 p = nI s)
def r8 (x13 : Nat → Int32) (z15 z16 : Int32) : Prop := (∀ set, set < 512 → x13 set = nI (dig set)) ∧ z15 = 0 ∧ z16 = 0
def r9 (x19 x20 x21 y13 y14 y15 : Nat → Int32) : Prop := ∀ r, r < 4 → x19 r = y13 r ∧ x20 r = y14 r ∧ x21 r = y15 r ∧ (∃ n, n ≤ 6 ∧ y13 r = nI n) ∧ (∃ n, n ≤ 6 ∧ y14 r = nI n) ∧ isB (y15 r)
def r10 (x22 y16 : Nat → Int32) : Prop := ∀ k, k < 144 → x22 k = y16 k ∧ isB (y16 k)
def rS1 (si pp po : Nat → Int32) (q pa : Nat → Nat) : Prop := (∀ k, k < 144 → q k ≤ 40 ∧ si k = nI (q k) - 1 ∧ (q k ≠ 0 → pa k < 9 ∧ pp k = nI (pa k)) ∧ (q k = 0 → pp k = -1)) ∧ (∀ k k', k < 144 → k' < 144 → q k ≠ 0 → q k = q k' → k = k') ∧ (∀ c, c < 40 → (∃ k, k < 144 ∧ q k = c + 1 ∧ po c = nI k) ∨ ((∀ k, k < 144 → q k ≠ c + 1) ∧ po c = -1))
def rS (si pp po : Nat → Nat → Int32) (q pa : Nat → Nat → Nat) : Prop := ∀ s, s < 6 → rS1 (si s) (pp s) (po s) (q s) (pa s)
def rF (y17 y18 : Nat → Int32) (q pa : Nat → Nat → Nat) : Prop := ∀ s k, s < 6 → k < 144 → y17 (144 * s + k) = nI (q s k) ∧ (q s k ≠ 0 → y18 (144 * s + k) = nI (pa s k))
def r13 (x45 y19 : Nat → Int32) : Prop := ∀ i, i < 10 → x45 i = y19 i ∧ ∃ n, n ≤ 6 ∧ y19 i = nI n
def r14 (x46 y20 : Nat → Int32) : Prop := (∀ i, i < 10 → x46 i = nI (oY y20 i)) ∧ ∀ k, k < 90 → isB (y20 k)
def r15 (wa : Nat → Nat → Int32) (y21 : Nat → Int32) : Prop := (∀ s r, s < 6 → r < 4 → wa s r = nI (wY y21 s r)) ∧ (∀ k, k < 240 → isB (y21 k)) ∧ (∀ s i, s < 6 → i < 10 → ∀ r r', r < 4 → r' < 4 → y21 (40 * s + 10 * r + i) ≠ 0 → y21 (40 * s + 10 * r' + i) ≠ 0 → r = r')
def r16 (pl : Int32) (q : Nat → Nat → Nat) (y21 : Nat → Int32) : Prop := pl = 0 → (∀ s k, s < 6 → k < 144 → q s k = 0) ∧ ∀ k, k < 240 → y21 k = 0
def qT (X Y : Mem) : Prop := r1 (X 2) (Y 1) ∧ r2 (X 3) (Y 2) ∧ r3 (X 4) (Y 4) ∧ r4 (X 5) (Y 5) ∧ r5 (X 7) (X 8) (X 9) (Y 6) ∧ r6 (X 10) (Y 3)
def qP (X Y : Mem) : Prop := r7 (X 1 7) (X 1 8) (X 11) (Y 0 7) (Y 7) ∧ r8 (X 13) (X 15 0) (X 16 0)
def qB (X Y : Mem) : Prop := r9 (X 19) (X 20) (X 21) (Y 13) (Y 14) (Y 15) ∧ r10 (X 22) (Y 16)
def qS (X Y : Mem) (q pa : Nat → Nat → Nat) : Prop := rS (seg X 24 6) (seg X 31 6) (seg X 38 6) q pa ∧ rF (Y 17) (Y 18) q pa
def qO (X Y : Mem) : Prop := r13 (X 45) (Y 19) ∧ r14 (X 46) (Y 20)
def qW (X Y : Mem) : Prop := r15 (seg X 48 6) (Y 21)
def Rel (X Y : Mem) : Prop := ∃ q pa, qT X Y ∧ qP X Y ∧ qB X Y ∧ qS X Y q pa ∧ qO X Y ∧ qW X Y ∧ r16 (Y 0 7) q (Y 21)
theorem qT_c {X X' Y Y' : Mem} (hX : ∀ j, 2 ≤ j → j < 11 → X' j = X j) (hY : ∀ j, 1 ≤ j → j < 7 → Y' j = Y j) (h : qT X Y) : qT X' Y' := by
  unfold qT at h ⊢
  rw [hX 2 (by decide) (by decide), hX 3 (by decide) (by decide), hX 4 (by decide) (by decide), hX 5 (by decide) (by decide), hX 7 (by decide) (by decide), hX 8 (by decide) (by decide), hX 9 (by decide) (by decide), hX 10 (by decide) (by decide), hY 1 (by decide) (by decide), hY 2 (by decide) (by decide), hY 3 (by decide) (by decide), hY 4 (by decide) (by decide), hY 5 (by decide) (by decide), hY 6 (by decide) (by decide)]
  exact h
theorem qP_c {X X' Y Y' : Mem} (hX : ∀ j, (j = 1 ∨ j = 11 ∨ j = 13 ∨ j = 15 ∨ j = 16) → X' j = X j) (h0 : Y' 0 7 = Y 0 7) (h7 : Y' 7 = Y 7) (h : qP X Y) : qP X' Y' := by
  unfold qP at h ⊢
  rw [hX 1 (by decide), hX 11 (by decide), hX 13 (by decide), hX 15 (by decide), hX 16 (by decide), h0, h7]
  exact h
theorem qB_c {X X' Y Y' : Mem} (hX : ∀ j, 19 ≤ j → j < 23 → X' j = X j) (hY : ∀ j, 13 ≤ j → j < 17 → Y' j = Y j) (h : qB X Y) : qB X' Y' := by
  unfold qB at h ⊢
  rw [hX 19 (by decide) (by decide), hX 20 (by decide) (by decide), hX 21 (by decide) (by decide), hX 22 (by decide) (by decide), hY 13 (by decide) (by decide), hY 14 (by decide) (by decide), hY 15 (by decide) (by decide), hY 16 (by decide) (by decide)]
  exact h
theorem qS_c {X X' Y Y' : Mem} {q pa : Nat → Nat → Nat} (hX : ∀ j, 24 ≤ j → j < 44 → X' j = X j) (h17 : Y' 17 = Y 17) (h18 : Y' 18 = Y 18) (h : qS X Y q pa) : qS X' Y' q pa := by
  unfold qS at h ⊢
  rw [seg_eq (X := X) (X' := X') (fun j h1 h2 => hX j (by omega) (by omega)), seg_eq (X := X) (X' := X') (fun j h1 h2 => hX j (by omega) (by omega)), seg_eq (X := X) (X' := X') (fun j h1 h2 => hX j (by omega) (by omega)), h17, h18]
  exact h
theorem qO_c {X X' Y Y' : Mem} (h45 : X' 45 = X 45) (h46 : X' 46 = X 46) (h19 : Y' 19 = Y 19) (h20 : Y' 20 = Y 20) (h : qO X Y) : qO X' Y' := by
  unfold qO at h ⊢; rw [h45, h46, h19, h20]; exact h
theorem qW_c {X X' Y Y' : Mem} (hX : ∀ j, 48 ≤ j → j < 54 → X' j = X j) (h21 : Y' 21 = Y 21) (h : qW X Y) : qW X' Y' := by
  unfold qW at h ⊢
  rw [seg_eq (X := X) (X' := X') (fun j h1 h2 => hX j h1 (by omega)), h21]; exact h
/-! ===== forget, dropPlan ===== -/
def forg (Y : Mem) : Mem := upA (upA (up2 Y 0 7 0) 17 864 0) 21 240 0
theorem fill_run {b : Int32 × Mem → Option ((Int32 × Mem) ⊕ (Int32 × Mem))} {M : Mem} {k n : Nat} {v : Int32} (hn : n < 2 ^ 31) (hb : ∀ i M', i < n → b (nI i, M') = some (.inr (nI (i + 1), up2 M' k (nI i).toNatClampNeg v))) (he : ∀ M', b (nI n, M') = some (.inl (nI n, M'))) : xlp b (0, M) = some (nI n, upA M k n v) := by
  have h := xlp_run (b := b) (r := (nI n, upA M k n v)) (fun i => (nI i, upA M k i v)) n (fun i hi => by rw [hb i _ hi, upA_s _ _ _ _ (by omega)]) (he _) 0 (Nat.zero_le _)
  simp only [upA_0] at h
  exact h
theorem xM_forget (Y : Mem) : fM_forget Y = some (forg Y) := by
  unfold fM_forget
  rw [xlt_eq, fill_run (k := 17) (n := 864) (v := 0) (by decide) (fun i M' hi => ?_) (fun M' => ?_), xbd_eq]
  · unfold fM_forget_27
    rw [fill_run (k := 21) (n := 240) (v := 0) (by decide) (fun i M' hi => ?_) (fun M' => ?_), xbd_eq]
    · rfl
    · dsimp only [bM_forget_29, gM_forget_29]
      rw [if_neg (show ¬ (240 : Int32) ≤ nI i from nI_ltc hi (by decide)), xgd_pos (vi_n hi (by decide))]
      simp only [xlt_eq, nI_1]
      rfl
    · dsimp only [bM_forget_29, gM_forget_29]; exact if_pos (Int32.le_refl (nI 240))
  · dsimp only [bM_forget_7, gM_forget_7]
    rw [if_neg (show ¬ (864 : Int32) ≤ nI i from nI_ltc hi (by decide)), xgd_pos (vi_n hi (by decide))]
    simp only [xlt_eq, nI_1]
  · dsimp only [bM_forget_7, gM_forget_7]; exact if_pos (Int32.le_refl (nI 864))
/-! ===== seats given and left ===== -/
def un (q : Nat → Nat) (k v : Nat) : Nat → Nat := fun j => if j = k then v else q j
def un2 (q : Nat → Nat → Nat) (s k v : Nat) : Nat → Nat → Nat := fun t => if t = s then un (q t) k v else q t
theorem un_s (q : Nat → Nat) (k v : Nat) : un q k v k = v := if_pos rfl
theorem un_n {q : Nat → Nat} {k v j : Nat} (h : j ≠ k) : un q k v j = q j := if_neg h
theorem un2_s (q : Nat → Nat → Nat) (s k v : Nat) : un2 q s k v s = un (q s) k v := if_pos rfl
theorem un2_n {q : Nat → Nat → Nat} {s k v t : Nat} (h : t ≠ s) : un2 q s k v t = q t := if_neg h
theorem sit0 : nI 0 - 1 = -1 := by decide
theorem sit1 (c : Nat) : nI (c + 1) - 1 = nI c := nI_pred c
theorem nIm1 {c : Nat} (h : c < 2 ^ 31) : ¬ nI c = -1 := fun e => by
  have := nI_pos h
  rw [e] at this
  exact this (by decide)
theorem rS1_vac {si pp po : Nat → Int32} {q pa : Nat → Nat} {k c : Nat} (h : rS1 si pp po q pa) (hk : k < 144) (hq : q k = c + 1) : rS1 (upd si k (-1)) (upd pp k (-1)) (upd po c (-1)) (un q k 0) pa := by
  obtain ⟨h1, h2, h3⟩ := h
  refine ⟨fun j hj => ?_, fun j j' hj hj' hn e => ?_, fun d hd => ?_⟩
  · by_cases e : j = k
    · subst e
      rw [un_s, pk_us, pk_us]
      exact ⟨by omega, sit0.symm, fun h => absurd rfl h, fun _ => rfl⟩
    · rw [un_n e, pk_un e, pk_un e]; exact h1 j hj
  · by_cases e1 : j = k
    · subst e1; rw [un_s] at hn; exact absurd rfl hn
    · by_cases e2 : j' = k
      · subst e2; rw [un_n e1] at hn; rw [un_n e1, un_s] at e; exact absurd e hn
      · rw [un_n e1] at hn; rw [un_n e1, un_n e2] at e; exact h2 j j' hj hj' hn e
  · by_cases e : d = c
    · subst e
      rw [pk_us]
      refine Or.inr ⟨fun j hj => ?_, rfl⟩
      by_cases e1 : j = k
      · subst e1; rw [un_s]; omega
      · rw [un_n e1]
        intro e2
        exact e1 (h2 j k hj hk (by omega) (by omega))
    · rw [pk_un e]
      rcases h3 d hd with ⟨j, g1, g2, g3⟩ | ⟨g1, g2⟩
      · refine Or.inl ⟨j, g1, ?_, g3⟩
        rw [un_n (fun e1 => by subst e1; omega)]; exact g2
      · refine Or.inr ⟨fun j hj => ?_, g2⟩
        by_cases e1 : j = k
        · subst e1; rw [un_s]; omega
        · rw [un_n e1]; exact g1 j hj
theorem rS1_give {si pp po : Nat → Int32} {q pa : Nat → Nat} {k c p : Nat} (h : rS1 si pp po q pa) (hk : k < 144) (hq : q k = 0) (hc : c < 40) (hno : ∀ j, j < 144 → q j ≠ c + 1) (hp : p < 9) : rS1 (upd si k (nI c)) (upd pp k (nI p)) (upd po c (nI k)) (un q k (c + 1)) (un pa k p) := by
  obtain ⟨h1, h2, h3⟩ := h
  refine ⟨fun j hj => ?_, fun j j' hj hj' hn e => ?_, fun d hd => ?_⟩
  · by_cases e : j = k
    · subst e
      rw [un_s, un_s, pk_us, pk_us]
      exact ⟨by omega, (sit1 c).symm, fun _ => ⟨hp, rfl⟩, fun h => absurd h (by omega)⟩
    · rw [un_n e, un_n e, pk_un e, pk_un e]; exact h1 j hj
  · by_cases e1 : j = k
    · subst e1
      by_cases e2 : j' = j
      · exact e2.symm
      · rw [un_s, un_n e2] at e; exact absurd e.symm (hno j' hj')
    · by_cases e2 : j' = k
      · subst e2; rw [un_n e1, un_s] at e; exact absurd e (hno j hj)
      · rw [un_n e1] at hn; rw [un_n e1, un_n e2] at e; exact h2 j j' hj hj' hn e
  · by_cases e : d = c
    · subst e
      rw [pk_us]
      exact Or.inl ⟨k, hk, un_s _ _ _, rfl⟩
    · rw [pk_un e]
      rcases h3 d hd with ⟨j, g1, g2, g3⟩ | ⟨g1, g2⟩
      · refine Or.inl ⟨j, g1, ?_, g3⟩
        rw [un_n (fun e1 => by subst e1; omega)]; exact g2
      · refine Or.inr ⟨fun j hj => ?_, g2⟩
        by_cases e1 : j = k
        · subst e1; rw [un_s]; omega
        · rw [un_n e1]; exact g1 j hj
theorem un_id {q : Nat → Nat} {k : Nat} (h : q k = 0) : un q k 0 = q := by
  funext j
  by_cases e : j = k
  · subst e; rw [un_s, h]
  · rw [un_n e]
theorem un2_id {q : Nat → Nat → Nat} {s k : Nat} (h : q s k = 0) : un2 q s k 0 = q := by
  funext t
  by_cases e : t = s
  · subst e; rw [un2_s, un_id h]
  · rw [un2_n e]
abbrev qC (X : Mem) (q pa : Nat → Nat → Nat) : Prop := rS (seg X 24 6) (seg X 31 6) (seg X 38 6) q pa
theorem seg3 (X : Mem) {s c k : Nat} {u v w : Int32} (hs : s < 6) : seg (up2 (up2 (up2 X (38 + s) c w) (24 + s) k u) (31 + s) k v) 24 6 = up2 (seg X 24 6) s k u ∧ seg (up2 (up2 (up2 X (38 + s) c w) (24 + s) k u) (31 + s) k v) 31 6 = up2 (seg X 31 6) s k v ∧ seg (up2 (up2 (up2 X (38 + s) c w) (24 + s) k u) (31 + s) k v) 38 6 = up2 (seg X 38 6) s c w := by
  refine ⟨?_, ?_, ?_⟩
  · rw [seg_eq (X := up2 (up2 X (38 + s) c w) (24 + s) k u) (fun j h1 h2 => up2_ne (by omega)), seg_up _ hs, seg_eq (X := X) (fun j h1 h2 => up2_ne (by omega))]
  · rw [seg_up _ hs, seg_eq (X := X) (fun j h1 h2 => by rw [up2_ne (by omega), up2_ne (by omega)])]
  · rw [seg_eq (X := up2 X (38 + s) c w) (fun j h1 h2 => by rw [up2_ne (by omega), up2_ne (by omega)]), seg_up _ hs]
theorem xR_vacate {X : Mem} {q pa : Nat → Nat → Nat} {s k : Nat} (h : qC X q pa) (hs : s < 6) (hk : k < 144) : ∃ X', fR_vacate (nI s) (nI k) X = some X' ∧ qC X' (un2 q s k 0) pa ∧ (∀ j, j < 24 ∨ 44 ≤ j → X' j = X j) ∧ (∀ t c, t < 6 → X (38 + t) c = -1 → X' (38 + t) c = -1) ∧ (∀ c, c < 40 → X (38 + s) c = nI k → X' (38 + s) c = -1) := by
  have hS := h s hs
  obtain ⟨g1, g2, g3, g4⟩ := hS.1 k hk
  rw [seg_at _ hs] at g2
  have e1 : (23 : Nat) + 1 + (nI s).toNatClampNeg = 24 + s := by rw [nI_clamp (by omega)]
  have e2 : (30 : Nat) + 1 + (nI s).toNatClampNeg = 31 + s := by rw [nI_clamp (by omega)]
  have e3 : (37 : Nat) + 1 + (nI s).toNatClampNeg = 38 + s := by rw [nI_clamp (by omega)]
  have ek : (nI k).toNatClampNeg = k := nI_clamp (by omega)
  have v1 : vp_in (nI s) 6 := vi_n hs (by decide)
  have v2 : vp_in (nI k) 144 := vi_n hk (by decide)
  unfold fR_vacate
  rw [if_neg (nIm1 (by omega)), xgd_pos v1, xgd_pos v2, e1, e2, e3, ek, g2]
  cases hq : q s k with
  | zero =>
    rw [if_pos sit0]
    refine ⟨X, rfl, by rw [un2_id hq]; exact h, fun _ _ => rfl, fun _ _ _ h => h, fun c hc e => ?_⟩
    exfalso
    have h3 := hS.2.2 c hc
    rw [seg_at _ hs, e] at h3
    rcases h3 with ⟨k', a1, a2, a3⟩ | ⟨a1, a2⟩
    · have : k = k' := (nI_eq (by omega) (by omega)).mp a3
      subst this; omega
    · exact nIm1 (by omega) a2
  | succ c =>
    have hc : c < 40 := by omega
    rw [sit1, if_neg (nIm1 (by omega)), xgd_pos v1, xgd_pos v1, xgd_pos v2, xgd_pos (vi_n hc (by decide)), nI_clamp (by omega)]
    simp only [xlt_eq, xgd_pos v1, xgd_pos v2]
    refine ⟨_, rfl, ?_, fun j hj => by rw [up2_ne (by omega), up2_ne (by omega), up2_ne (by omega)], fun t d ht hd => ?_, fun d hd e => ?_⟩
    · obtain ⟨s1, s2, s3⟩ := seg3 X (s := s) (c := c) (k := k) (u := -1) (v := -1) (w := -1) hs
      show rS _ _ _ _ _
      rw [s1, s2, s3]
      intro t ht
      by_cases e : t = s
      · subst e
        rw [up2_same, up2_same, up2_same, un2_s]
        exact rS1_vac hS hk hq
      · rw [up2_ne e, up2_ne e, up2_ne e, un2_n e]; exact h t ht
    · rw [up2_ne (by omega), up2_ne (by omega)]
      by_cases e : 38 + t = 38 + s ∧ d = c
      · rw [e.1, e.2]; exact up2_at _ _ _ _
      · rw [up2_off e]; exact hd
    · rw [up2_ne (by omega), up2_ne (by omega)]
      have h3 := hS.2.2 d hd
      rw [seg_at _ hs, e] at h3
      have hdc : d = c := by
        rcases h3 with ⟨k', a1, a2, a3⟩ | ⟨a1, a2⟩
        · have : k = k' := (nI_eq (by omega) (by omega)).mp a3
          subst this; omega
        · exact absurd a2 (nIm1 (by omega))
      rw [hdc]; exact up2_at _ _ _ _
theorem xR_vac0 (a : Int32) (X : Mem) : fR_vacate a (-1) X = some X := if_pos rfl
