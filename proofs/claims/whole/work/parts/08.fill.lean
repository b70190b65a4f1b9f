/-! ===== java.util.Arrays.fill(int[], int); a switch's way out ===== -/
def upA (M : Mem) (k n : Nat) (v : Int32) : Mem := fun j => if j = k then (fun i => if i < n then v else M j i) else M j
theorem upA_0 (M : Mem) (k : Nat) (v : Int32) : upA M k 0 v = M := by
  funext j i
  unfold upA
  by_cases h : j = k
  · simp [h]
  · simp [h]
theorem upA_s (M : Mem) (k i : Nat) (v : Int32) (hi : i < 2 ^ 31) : up2 (upA M k i v) k (nI i).toNatClampNeg v = upA M k (i + 1) v := by
  funext j q
  rw [nI_clamp hi]
  unfold up2 upA upd
  by_cases h : j = k
  · by_cases hq : q = i
    · simp [h, hq]
    · by_cases h2 : q < i
      · simp [h, hq, h2, show q < i + 1 by omega]
      · simp [h, hq, h2, show ¬ q < i + 1 by omega]
  · simp [h]
set_option maxHeartbeats 4000000 in
set_option maxRecDepth 100000 in
theorem tJA_fill (l : Launch) (G : va_G) {S : List Kd} {k n : Nat} {q : List (Nat ⊕ Nat)} (hk : S[k]? = some (0, n, q)) (c3 : ClassId × ClassId × ClassId) (ad : Nat → Nat) (hd : adI S ad) (M : Mem) (v : Int32) (hn : n < 2 ^ 31 := by decide) : WMet l yJA_fill cJA_fill 4 none (rm0_ 0 0) G kl S c3 ad M [.ref (ad k), .int v] none (upA M k n v) := by
  refine WMet.of (by decide +kernel) (Nat.le_of_ble_eq_true rfl) (fun p e s m args below meth c ls F hT hK hP hr hlk hl hS => ?_)
  have hx := F.1
  have hb := F.2.1
  have hl : lv_has ls 4 [(0, .ref (ad k)), (1, .int v)] := hl
  have LH : ∀ (d i : Nat) (H : Heap) (locs : List Loc) (ls : Array Slot), i + d = n → lv_has ls 4 [(0, .ref (ad k)), (1, .int v), (2, .int (nI i)), (3, .int (nI n))] → va_P G kl (wd S c3 ad (upA M k i v)) H → va_S (adA S ad) s.heap H locs → W p l e (rm0_ 0 0) s m args below meth c H locs 0 0 (MQ below (QW G kl S c3 ad none (upA M k n v)) args s 0 0 (adA S ad)) (F0 m 5 ls []) := by
    intro d
    induction d with
    | zero =>
      intro i H locs ls hi hl hP hS
      have hi : i = n := by omega
      subst hi
      refine lv_iload_n hx hb d_JA_fill_5 rfl (lv_at hl 2 rfl) ?_
      refine lv_iload_n hx hb d_JA_fill_6 rfl (lv_at hl 3 rfl) ?_
      refine lv_icmp_ge (tgt := 20) hx hb d_JA_fill_7 rfl (fun hc => ?_) (fun hc => absurd (nI_le (Nat.le_refl _) hn) hc)
      exact xw_vret hx hb hr hlk hP hS rfl d_JA_fill_20
    | succ d ih =>
      intro i H locs ls hi hl hP hS
      refine lv_iload_n hx hb d_JA_fill_5 rfl (lv_at hl 2 rfl) ?_
      refine lv_iload_n hx hb d_JA_fill_6 rfl (lv_at hl 3 rfl) ?_
      refine lv_icmp_ge (tgt := 20) hx hb d_JA_fill_7 rfl (fun hc => absurd hc (nI_ge (by omega) hn)) (fun hc => ?_)
      refine lv_aload_n hx hb d_JA_fill_10 rfl (lv_at hl 0 rfl) ?_
      refine lv_iload_n hx hb d_JA_fill_11 rfl (lv_at hl 2 rfl) ?_
      refine lv_iload_n hx hb d_JA_fill_12 rfl (lv_at hl 1 rfl) ?_
      refine xr_iast hx hb hd hK hP hS hk (vp_in_nI (by omega) hn) d_JA_fill_13 (fun H locs hP hS => ?_)
      rw [upA_s M k i v (by omega)] at hP
      refine lv_iinc (k := 2) (lv' := [(2, .int (nI (i + 1))), (0, .ref (ad k)), (1, .int v), (3, .int (nI n))]) hx hb d_JA_fill_14 hl rfl (nI_succ i).symm (by decide) rfl (fun ls hl => ?_)
      refine lv_goto (tgt := 5) hx hb d_JA_fill_17 rfl ?_
      exact ih (i + 1) _ _ _ (by omega) (lv_sub hl [1, 2, 0, 3] rfl) hP hS
  refine lv_iconst (v := 0) hx hb d_JA_fill_0 rfl ?_
  refine lv_istore_n (lv' := [(2, .int 0), (0, .ref (ad k)), (1, .int v)]) hx hb d_JA_fill_1 rfl hl (by decide) rfl (fun ls hl => ?_)
  refine lv_aload_n hx hb d_JA_fill_2 rfl (lv_at hl 1 rfl) ?_
  refine va_alen hx hb hK hP k 0 (wd_at hk) rfl (v := nI n) rfl d_JA_fill_3 ?_
  refine lv_istore_n (lv' := [(3, .int (nI n)), (2, .int 0), (0, .ref (ad k)), (1, .int v)]) hx hb d_JA_fill_4 rfl hl (by decide) rfl (fun ls hl => ?_)
  refine LH n 0 _ _ _ (by omega) (lv_sub hl [2, 3, 1, 0] rfl) ?_ hS
  rw [upA_0]
  exact hP
theorem tb_out (n : Nat) {x : Int32} (h0 : ¬ x = 0) (h1 : ¬ x = 1) (h2 : ¬ x = 2) (h3 : ¬ x = 3) (h4 : ¬ x = 4) : x.toInt < 0 ∨ 4 < x.toInt := by
  by_cases hn : x.toInt < 0
  · exact Or.inl hn
  · refine Or.inr ?_
    have e0 : ¬ x.toInt = 0 := fun h => h0 (Int32.toInt_inj.mp h)
    have e1 : ¬ x.toInt = 1 := fun h => h1 (Int32.toInt_inj.mp h)
    have e2 : ¬ x.toInt = 2 := fun h => h2 (Int32.toInt_inj.mp h)
    have e3 : ¬ x.toInt = 3 := fun h => h3 (Int32.toInt_inj.mp h)
    have e4 : ¬ x.toInt = 4 := fun h => h4 (Int32.toInt_inj.mp h)
    omega
