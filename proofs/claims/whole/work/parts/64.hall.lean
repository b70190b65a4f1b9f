/-! ===== rooms that need people: who can be spared ===== -/
theorem cnt_del {P : Nat → Bool} {x : Nat} : ∀ {n : Nat}, x < n → cnt P n = cnt (fun i => P i && !decide (i = x)) n + (P x).toNat
  | 0, h => absurd h (Nat.not_lt_zero x)
  | n + 1, h => by
    show cnt P n + (P n).toNat = cnt _ n + (P n && !decide (n = x)).toNat + (P x).toNat
    by_cases e : n = x
    · subst e
      have : cnt (fun i => P i && !decide (i = n)) n = cnt P n := cnt_ext (fun i hi => by simp [show i ≠ n by omega])
      rw [this]; simp
    · rw [cnt_del (show x < n by omega)]; simp [e]; omega
theorem cnt_sub {A B C D : Nat → Bool} : ∀ {n : Nat}, (∀ i, i < n → (A i).toNat + (B i).toNat ≤ (C i).toNat + (D i).toNat) → cnt A n + cnt B n ≤ cnt C n + cnt D n
  | 0, _ => Nat.le_refl _
  | n + 1, h => by
    have h1 := cnt_sub (fun i hi => h i (Nat.lt_succ_of_lt hi))
    have h2 := h n (Nat.lt_succ_self n)
    show cnt A n + _ + (cnt B n + _) ≤ cnt C n + _ + (cnt D n + _)
    omega
theorem sm_plus (f g : Nat → Nat) : ∀ n, sm f n + sm g n = sm (fun i => f i + g i) n
  | 0 => rfl
  | n + 1 => by
    show sm f n + f n + (sm g n + g n) = sm (fun i => f i + g i) n + (f n + g n)
    rw [← sm_plus f g n]; omega
theorem anyB_or {a b c : Nat → Bool} : ∀ {n : Nat}, anyB (fun r => (a r || b r) && c r) n = (anyB (fun r => a r && c r) n || anyB (fun r => b r && c r) n)
  | 0 => rfl
  | n + 1 => by
    show (anyB _ n || _) = ((anyB _ n || _) || (anyB _ n || _))
    rw [anyB_or]
    dsimp only
    cases anyB (fun r => a r && c r) n <;> cases anyB (fun r => b r && c r) n <;> cases a n <;> cases b n <;> cases c n <;> rfl
def grpN (S : Nat → Nat → Bool) (g i : Nat) : Bool := anyB (fun r => g.testBit r && S r i) 4
def grpM (m : Nat → Nat) (g : Nat) : Nat := sm (fun r => (g.testBit r).toNat * m r) 4
def Hall (S : Nat → Nat → Bool) (F : Nat → Bool) (m : Nat → Nat) : Prop := ∀ g, g < 16 → grpM m g ≤ cnt (fun i => F i && grpN S g i) 10
def rem (F : Nat → Bool) (x : Nat) : Nat → Bool := fun i => F i && !decide (i = x)
def dem (m : Nat → Nat) (r : Nat) : Nat → Nat := un m r (m r - 1)
theorem grpN_or (S : Nat → Nat → Bool) (g h i : Nat) : grpN S (g ||| h) i = (grpN S g i || grpN S h i) := by
  unfold grpN
  rw [← anyB_or]
  exact anyB_ext (fun r _ => by rw [Nat.testBit_or])
theorem grpN_and {S : Nat → Nat → Bool} {g h i : Nat} (e : grpN S (g &&& h) i = true) : grpN S g i = true ∧ grpN S h i = true := by
  obtain ⟨r, hr, hp⟩ := anyB_t.mp e
  rw [Nat.testBit_and, Bool.and_eq_true, Bool.and_eq_true] at hp
  exact ⟨anyB_t.mpr ⟨r, hr, by rw [hp.1.1, hp.2]; rfl⟩, anyB_t.mpr ⟨r, hr, by rw [hp.1.2, hp.2]; rfl⟩⟩
theorem grpN_in {S : Nat → Nat → Bool} {g r i : Nat} (hr : r < 4) (hg : g.testBit r = true) (hs : S r i = true) : grpN S g i = true := anyB_t.mpr ⟨r, hr, by rw [hg, hs]; rfl⟩
theorem grpM_or (m : Nat → Nat) (g h : Nat) : grpM m (g ||| h) + grpM m (g &&& h) = grpM m g + grpM m h := by
  unfold grpM
  rw [sm_plus, sm_plus]
  refine sm_ext (fun r _ => ?_)
  rw [Nat.testBit_or, Nat.testBit_and, ← Nat.add_mul, ← Nat.add_mul]
  congr 1
  cases g.testBit r <;> cases h.testBit r <;> rfl
theorem grpM_dem {m : Nat → Nat} {r : Nat} (g : Nat) (hr : r < 4) (hm : 0 < m r) : grpM (dem m r) g + (g.testBit r).toNat = grpM m g := by
  unfold grpM dem
  simp only [sm]
  rcases (show r = 0 ∨ r = 1 ∨ r = 2 ∨ r = 3 by omega) with rfl | rfl | rfl | rfl
  all_goals
    simp only [un, if_pos, if_neg, show ¬ (0 = 1) by decide, show ¬ (0 = 2) by decide, show ¬ (0 = 3) by decide, show ¬ (1 = 0) by decide, show ¬ (1 = 2) by decide, show ¬ (1 = 3) by decide, show ¬ (2 = 0) by decide, show ¬ (2 = 1) by decide, show ¬ (2 = 3) by decide, show ¬ (3 = 0) by decide, show ¬ (3 = 1) by decide, show ¬ (3 = 2) by decide]
  · cases g.testBit 0 <;> simp <;> omega
  · cases g.testBit 1 <;> simp <;> omega
  · cases g.testBit 2 <;> simp <;> omega
  · cases g.testBit 3 <;> simp <;> omega
theorem cnt_rem {S : Nat → Nat → Bool} {F : Nat → Bool} (g : Nat) {x : Nat} (hx : x < 10) : cnt (fun i => F i && grpN S g i) 10 = cnt (fun i => rem F x i && grpN S g i) 10 + (F x && grpN S g x).toNat := by
  rw [cnt_del (P := fun i => F i && grpN S g i) hx]
  congr 1
  refine cnt_ext (fun i _ => ?_)
  unfold rem
  cases F i <;> cases grpN S g i <;> cases decide (i = x) <;> rfl
theorem H_back {S : Nat → Nat → Bool} {F : Nat → Bool} {m : Nat → Nat} {r x : Nat} (hr : r < 4) (hm : 0 < m r) (hx : x < 10) (hF : F x = true) (hS : S r x = true) (h : Hall S (rem F x) (dem m r)) : Hall S F m := by
  intro g hg
  have h1 := h g hg
  have h2 := grpM_dem (m := m) g hr hm
  rw [cnt_rem g hx]
  cases hb : g.testBit r with
  | false => rw [hb] at h2; have : (false : Bool).toNat = 0 := rfl; omega
  | true =>
    rw [hb] at h2
    rw [hF, grpN_in hr hb hS]
    have : (true : Bool).toNat = 1 := rfl
    have : (true && true : Bool).toNat = 1 := rfl
    omega
theorem H_zero {S : Nat → Nat → Bool} {F : Nat → Bool} {m : Nat → Nat} (h : ∀ r, r < 4 → m r = 0) : Hall S F m := by
  intro g _
  have : grpM m g = 0 := by
    unfold grpM
    simp only [sm]
    rw [h 0 (by decide), h 1 (by decide), h 2 (by decide), h 3 (by decide)]; simp
  omega
theorem H_fwd {S : Nat → Nat → Bool} {F : Nat → Bool} {m : Nat → Nat} {r : Nat} (hr : r < 4) (hm : 0 < m r) (h : Hall S F m) : ∃ x, x < 10 ∧ F x = true ∧ S r x = true ∧ Hall S (rem F x) (dem m r) := by
  refine Classical.byContradiction (fun hno => ?_)
  have bad : ∀ x, x < 10 → F x = true → S r x = true → ∃ g, g < 16 ∧ cnt (fun i => rem F x i && grpN S g i) 10 < grpM (dem m r) g := by
    intro x hx hF hS
    refine Classical.byContradiction (fun hn => hno ⟨x, hx, hF, hS, fun g hg => ?_⟩)
    exact Nat.le_of_not_lt (fun hl => hn ⟨g, hg, hl⟩)
  have key : ∀ n, n ≤ 10 → ∃ g, g < 16 ∧ g.testBit r = false ∧ grpM m g = cnt (fun i => F i && grpN S g i) 10 ∧ ∀ i, i < n → F i = true → S r i = true → grpN S g i = true := by
    intro n
    induction n with
    | zero =>
      intro _
      have z0 : grpM m 0 = 0 := by unfold grpM; simp [sm]
      refine ⟨0, by decide, Nat.zero_testBit r, ?_, fun i hi => absurd hi (Nat.not_lt_zero i)⟩
      rw [z0]
      refine (cnt_0 (fun i _ => ?_)).symm
      have : grpN S 0 i = false := by
        rw [Bool.eq_false_iff]; intro e
        obtain ⟨r', -, hp⟩ := anyB_t.mp e
        rw [Nat.zero_testBit] at hp; cases hp
      rw [this, Bool.and_false]
    | succ n ih =>
      intro hn
      obtain ⟨g, g1, g2, g3, g4⟩ := ih (by omega)
      by_cases hc : F n = true ∧ S r n = true
      · obtain ⟨k, k1, k2⟩ := bad n (by omega) hc.1 hc.2
        have e1 := grpM_dem (m := m) k hr hm
        have e2 := cnt_rem (S := S) (F := F) k (show n < 10 by omega)
        have e3 := h k k1
        have hkr : k.testBit r = false := by
          cases hb : k.testBit r with
          | false => rfl
          | true =>
            rw [hb] at e1
            rw [hc.1, grpN_in hr hb hc.2] at e2
            have : (true : Bool).toNat = 1 := rfl
            have : (true && true : Bool).toNat = 1 := rfl
            omega
        rw [hkr] at e1
        have f0 : (false : Bool).toNat = 0 := rfl
        have hNn : grpN S k n = true := by
          cases hb : grpN S k n with
          | true => rfl
          | false => rw [hb, Bool.and_false] at e2; omega
        have f1 : (F n && grpN S k n).toNat ≤ 1 := Bool.toNat_le _
        have tight : grpM m k = cnt (fun i => F i && grpN S k i) 10 := by omega
        have u1 := grpM_or m g k
        have u2 := h (g ||| k) (Nat.or_lt_two_pow (n := 4) g1 k1)
        have u3 := h (g &&& k) (Nat.lt_of_le_of_lt Nat.and_le_left g1)
        have u4 : cnt (fun i => F i && grpN S (g ||| k) i) 10 + cnt (fun i => F i && grpN S (g &&& k) i) 10 ≤ cnt (fun i => F i && grpN S g i) 10 + cnt (fun i => F i && grpN S k i) 10 := cnt_sub (fun i _ => by
          rw [grpN_or]
          cases ha : grpN S (g &&& k) i with
          | false => cases F i <;> cases grpN S g i <;> cases grpN S k i <;> decide
          | true => obtain ⟨p1, p2⟩ := grpN_and ha; rw [p1, p2]; cases F i <;> decide)
        refine ⟨g ||| k, Nat.or_lt_two_pow (n := 4) g1 k1, by rw [Nat.testBit_or, g2, hkr]; rfl, by omega, fun i hi hF hS => ?_⟩
        rw [grpN_or]
        by_cases e : i = n
        · subst e; rw [hNn, Bool.or_true]
        · rw [g4 i (by omega) hF hS, Bool.true_or]
      · refine ⟨g, g1, g2, g3, fun i hi hF hS => ?_⟩
        by_cases e : i = n
        · subst e; exact absurd ⟨hF, hS⟩ hc
        · exact g4 i (by omega) hF hS
  obtain ⟨g, g1, g2, g3, g4⟩ := key 10 (Nat.le_refl _)
  have hp : 2 ^ r < 16 := Nat.pow_lt_pow_right (n := 4) (by decide) hr
  have u1 := grpM_or m g (2 ^ r)
  have z0 : grpM m (g &&& 2 ^ r) = 0 := by rw [(and_pow g r).mpr g2]; unfold grpM; simp [sm]
  have z1 : grpM m (2 ^ r) = m r := by
    unfold grpM
    simp only [sm, Nat.testBit_two_pow]
    rcases (show r = 0 ∨ r = 1 ∨ r = 2 ∨ r = 3 by omega) with rfl | rfl | rfl | rfl <;> simp
  have u2 := h (g ||| 2 ^ r) (Nat.or_lt_two_pow (n := 4) g1 hp)
  have u3 : cnt (fun i => F i && grpN S (g ||| 2 ^ r) i) 10 = cnt (fun i => F i && grpN S g i) 10 := cnt_ext (fun i hi => by
    rw [grpN_or]
    cases hF : F i with
    | false => rfl
    | true =>
      cases hn : grpN S (2 ^ r) i with
      | false => rw [Bool.or_false]
      | true =>
        obtain ⟨r', hr', hp'⟩ := anyB_t.mp hn
        rw [Nat.testBit_two_pow, Bool.and_eq_true, decide_eq_true_eq] at hp'
        obtain ⟨rfl, hs⟩ := hp'
        rw [g4 i hi hF hs]; rfl)
  omega
theorem Hall_ext {S S' : Nat → Nat → Bool} {F F' : Nat → Bool} {m m' : Nat → Nat} (hS : ∀ r i, r < 4 → i < 10 → S r i = S' r i) (hF : ∀ i, i < 10 → F i = F' i) (hm : ∀ r, r < 4 → m r = m' r) (h : Hall S F m) : Hall S' F' m' := by
  intro g hg
  have h1 := h g hg
  rw [show grpM m' g = grpM m g from sm_ext (fun r hr => by rw [hm r hr])]
  rw [show cnt (fun i => F' i && grpN S' g i) 10 = cnt (fun i => F i && grpN S g i) 10 from cnt_ext (fun i hi => by
    rw [hF i hi, show grpN S' g i = grpN S g i from anyB_ext (fun r hr => by rw [hS r i hr hi])])]
  exact h1
