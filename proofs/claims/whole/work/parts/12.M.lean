noncomputable def fM_thrown (M : Mem) : Option (Int32) := some (M 0 0)
set_option maxHeartbeats 4000000 in
set_option maxRecDepth 100000 in
theorem tM_thrown (l : Launch) (G : va_G) (c3 : ClassId × ClassId × ClassId) (ad : Nat → Nat) (M : Mem) (out : Int32) (hf : fM_thrown M = some out) : RMet l yM_thrown cM_thrown 1 (some .int) (rm0_ 0 0) G kl SM c3 ad M [.ref (ad 0)] out := by
  refine RMet.of (by decide +kernel) (Nat.le_of_ble_eq_true rfl) (fun p e s m args below meth c ls F hT hK hP hr hlk hl => ?_)
  have hx := F.1
  have hb := F.2.1
  have F : CallFix p m c cM_thrown 1 s args gw RM := F
  have hown := F.2.2.2.1
  have hl : lv_has ls 1 [(0, .ref (ad 0))] := hl
  unfold fM_thrown at hf
  refine lv_aload_n hx hb d_M_thrown_0 rfl (lv_at hl 0 rfl) ?_
  refine xr_geti hx hb hT hown hK hP sM_0 rfl inM 0 (by decide) wf_M_81 rfl d_M_thrown_1 ?_
  exact xr_iret hx hb hr hlk (Option.some.inj hf) d_M_thrown_4
noncomputable def fM_isPaper_15 (s15_0 : Int32) : Option (Int32) := xgd (s15_0 = 0 ∨ s15_0 = 1) (some s15_0)
noncomputable def fM_isPaper_14 : Option (Int32) := fM_isPaper_15 0
noncomputable def fM_isPaper (a0 : Int32) : Option (Int32) := if a0 < 0 then (fM_isPaper_14) else (if 9 ≤ a0 then (fM_isPaper_14) else (fM_isPaper_15 1))
set_option maxHeartbeats 4000000 in
set_option maxRecDepth 100000 in
theorem tM_isPaper (l : Launch) (G : va_G) (c3 : ClassId × ClassId × ClassId) (ad : Nat → Nat) (M : Mem) (a0 : Int32) (out : Int32) (hf : fM_isPaper a0 = some out) : RMet l yM_isPaper cM_isPaper 1 (some .boolean) (rm0_ 0 0) G kl SM c3 ad M [.int a0] out := by
  refine RMet.of (by decide +kernel) (Nat.le_of_ble_eq_true rfl) (fun p e s m args below meth c ls F hT hK hP hr hlk hl => ?_)
  have hx := F.1
  have hb := F.2.1
  have F : CallFix p m c cM_isPaper 1 s args gw RM := F
  have hown := F.2.2.2.1
  have hl : lv_has ls 1 [(0, .int a0)] := hl
  have K15 : ∀ (s15_0 : Int32) (ls : Array Slot), lv_has ls 1 [] → fM_isPaper_15 s15_0 = some out → W p l e (rm0_ 0 0) s m args below meth c s.heap [] 0 0 (MQ below (QcRead out) args s 0 0 (fun _ => False)) (F0 m 15 ls [.int s15_0]) := by
    intro s15_0 ls  hl hf
    unfold fM_isPaper_15 at hf
    obtain ⟨z1, hf⟩ := xgd_some hf
    exact xr_zret hx hb hr hlk z1 (Option.some.inj hf) d_M_isPaper_15
  have K14 : ∀ (ls : Array Slot), lv_has ls 1 [] → fM_isPaper_14 = some out → W p l e (rm0_ 0 0) s m args below meth c s.heap [] 0 0 (MQ below (QcRead out) args s 0 0 (fun _ => False)) (F0 m 14 ls []) := by
    intro  ls  hl hf
    unfold fM_isPaper_14 at hf
    refine lv_iconst (v := 0) hx hb d_M_isPaper_14 rfl ?_
    exact K15 0 _  hl hf
  unfold fM_isPaper at hf
  refine lv_iload_n hx hb d_M_isPaper_0 rfl (lv_at hl 0 rfl) ?_
  refine lv_if_lt (tgt := 14) hx hb d_M_isPaper_1 rfl (fun hc => ?_) (fun hc => ?_)
  · have hf := ite_t hc hf
    exact K14  _  (lv_sub hl [] rfl) hf
  · have hf := ite_f hc hf
    refine lv_iload_n hx hb d_M_isPaper_4 rfl (lv_at hl 0 rfl) ?_
    refine lv_bipush (v := 9) hx hb d_M_isPaper_5 rfl ?_
    refine lv_icmp_ge (tgt := 14) hx hb d_M_isPaper_7 rfl (fun hc => ?_) (fun hc => ?_)
    · have hf := ite_t hc hf
      exact K14  _  (lv_sub hl [] rfl) hf
    · have hf := ite_f hc hf
      refine lv_iconst (v := 1) hx hb d_M_isPaper_10 rfl ?_
      refine lv_goto (tgt := 15) hx hb d_M_isPaper_11 rfl ?_
      exact K15 1 _  (lv_sub hl [] rfl) hf
noncomputable def fM_within_15 (s15_0 : Int32) : Option (Int32) := xgd (s15_0 = 0 ∨ s15_0 = 1) (some s15_0)
noncomputable def fM_within_14 : Option (Int32) := fM_within_15 0
noncomputable def fM_within (a0 a1 a2 : Int32) : Option (Int32) := if a0 < a1 then (fM_within_14) else (if a2 < a0 then (fM_within_14) else (fM_within_15 1))
set_option maxHeartbeats 4000000 in
set_option maxRecDepth 100000 in
theorem tM_within (l : Launch) (G : va_G) (c3 : ClassId × ClassId × ClassId) (ad : Nat → Nat) (M : Mem) (a0 a1 a2 : Int32) (out : Int32) (hf : fM_within a0 a1 a2 = some out) : RMet l yM_within cM_within 3 (some .boolean) (rm0_ 0 0) G kl SM c3 ad M [.int a0, .int a1, .int a2] out := by
  refine RMet.of (by decide +kernel) (Nat.le_of_ble_eq_true rfl) (fun p e s m args below meth c ls F hT hK hP hr hlk hl => ?_)
  have hx := F.1
  have hb := F.2.1
  have F : CallFix p m c cM_within 3 s args gw RM := F
  have hown := F.2.2.2.1
  have hl : lv_has ls 3 [(0, .int a0), (1, .int a1), (2, .int a2)] := hl
  have K15 : ∀ (s15_0 : Int32) (ls : Array Slot), lv_has ls 3 [] → fM_within_15 s15_0 = some out → W p l e (rm0_ 0 0) s m args below meth c s.heap [] 0 0 (MQ below (QcRead out) args s 0 0 (fun _ => False)) (F0 m 15 ls [.int s15_0]) := by
    intro s15_0 ls  hl hf
    unfold fM_within_15 at hf
    obtain ⟨z1, hf⟩ := xgd_some hf
    exact xr_zret hx hb hr hlk z1 (Option.some.inj hf) d_M_within_15
  have K14 : ∀ (ls : Array Slot), lv_has ls 3 [] → fM_within_14 = some out → W p l e (rm0_ 0 0) s m args below meth c s.heap [] 0 0 (MQ below (QcRead out) args s 0 0 (fun _ => False)) (F0 m 14 ls []) := by
    intro  ls  hl hf
    unfold fM_within_14 at hf
    refine lv_iconst (v := 0) hx hb d_M_within_14 rfl ?_
    exact K15 0 _  hl hf
  unfold fM_within at hf
  refine lv_iload_n hx hb d_M_within_0 rfl (lv_at hl 0 rfl) ?_
  refine lv_iload_n hx hb d_M_within_1 rfl (lv_at hl 1 rfl) ?_
  refine lv_icmp_lt (tgt := 14) hx hb d_M_within_2 rfl (fun hc => ?_) (fun hc => ?_)
  · have hf := ite_t hc hf
    exact K14  _  (lv_sub hl [] rfl) hf
  · have hf := ite_f hc hf
    refine lv_iload_n hx hb d_M_within_5 rfl (lv_at hl 0 rfl) ?_
    refine lv_iload_n hx hb d_M_within_6 rfl (lv_at hl 2 rfl) ?_
    refine lv_icmp_gt (tgt := 14) hx hb d_M_within_7 rfl (fun hc => ?_) (fun hc => ?_)
    · have hf := ite_t hc hf
      exact K14  _  (lv_sub hl [] rfl) hf
    · have hf := ite_f hc hf
      refine lv_iconst (v := 1) hx hb d_M_within_10 rfl ?_
      refine lv_goto (tgt := 15) hx hb d_M_within_11 rfl ?_
      exact K15 1 _  (lv_sub hl [] rfl) hf
noncomputable def fM_goes_33 (s33_0 : Int32) (M : Mem) : Option (Int32 × Mem) := xgd (s33_0 = 0 ∨ s33_0 = 1) (some (s33_0, M))
noncomputable def fM_goes_18 (s18_0 : Int32) (M : Mem) : Option (Int32 × Mem) := xlt (up2 M 0 0 s18_0) (fun M2 => if (M2 0 0) = 0 then (fM_goes_33 1 M2) else (fM_goes_33 0 M2))
noncomputable def fM_goes (a1 a2 : Int32) (M : Mem) : Option (Int32 × Mem) := if a1 = 0 then (fM_goes_18 1 M) else (if a2 = 0 then (fM_goes_18 2 M) else (fM_goes_18 0 M))
set_option maxHeartbeats 4000000 in
set_option maxRecDepth 100000 in
theorem tM_goes (l : Launch) (G : va_G) (c3 : ClassId × ClassId × ClassId) (ad : Nat → Nat) (hd : adI SM ad) (M : Mem) (a1 a2 : Int32) (o1 : Int32) (o2 : Mem) (hf : fM_goes a1 a2 M = some (o1, o2)) : WMet l yM_goes cM_goes 3 (some .boolean) (rm0_ 0 0) G kl SM c3 ad M [.ref (ad 0), .int a1, .int a2] (some (.int o1)) o2 := by
  generalize hout : (o1, o2) = out at hf
  obtain rfl : out.1 = o1 := by rw [← hout]
  obtain rfl : out.2 = o2 := by rw [← hout]
  clear hout
  refine WMet.of (by decide +kernel) (Nat.le_of_ble_eq_true rfl) (fun p e s m args below meth c ls F hT hK hP hr hlk hl hS => ?_)
  have hx := F.1
  have hb := F.2.1
  have F : CallFix p m c cM_goes 3 s args gw RM := F
  have hown := F.2.2.2.1
  have hl : lv_has ls 3 [(0, .ref (ad 0)), (1, .int a1), (2, .int a2)] := hl
  revert hP hS
  suffices hall : ∀ (H : Heap) (locs : List Loc), va_P G kl (wd SM c3 ad M) H → va_S (adA SM ad) s.heap H locs → W p l e (rm0_ 0 0) s m args below meth c H locs 0 0 (MQ below (QW G kl SM c3 ad (some (.int out.1)) out.2) args s 0 0 (adA SM ad)) (F0 m 0 ls []) from hall s.heap []
  intro H locs hP hS
  have K33 : ∀ (s33_0 : Int32) (M : Mem) (H : Heap) (locs : List Loc) (ls : Array Slot), lv_has ls 3 [] → va_P G kl (wd SM c3 ad M) H → va_S (adA SM ad) s.heap H locs → fM_goes_33 s33_0 M = some out → W p l e (rm0_ 0 0) s m args below meth c H locs 0 0 (MQ below (QW G kl SM c3 ad (some (.int out.1)) out.2) args s 0 0 (adA SM ad)) (F0 m 33 ls [.int s33_0]) := by
    intro s33_0 M H locs ls  hl hP hS hf
    unfold fM_goes_33 at hf
    obtain ⟨z1, hf⟩ := xgd_some hf
    exact xw_zret hx hb hr hlk hP hS z1 (Option.some.inj hf) d_M_goes_33
  have K18 : ∀ (s18_0 : Int32) (M : Mem) (H : Heap) (locs : List Loc) (ls : Array Slot), lv_has ls 3 [(0, .ref (ad 0))] → va_P G kl (wd SM c3 ad M) H → va_S (adA SM ad) s.heap H locs → fM_goes_18 s18_0 M = some out → W p l e (rm0_ 0 0) s m args below meth c H locs 0 0 (MQ below (QW G kl SM c3 ad (some (.int out.1)) out.2) args s 0 0 (adA SM ad)) (F0 m 18 ls [.int s18_0, .ref (ad 0)]) := by
    intro s18_0 M H locs ls  hl hP hS hf
    unfold fM_goes_18 at hf
    obtain ⟨M2, hM2, hf⟩ := xlt_some hf
    refine xr_puti hx hb hT hown hd hK hP hS sM_0 rfl inM tyM tkM nmM 0 (by decide) wf_M_81 rfl fM_0_0 rfl rfl rfl d_M_goes_18 (fun H locs hP hS => ?_)
    rw [hM2] at hP
    refine lv_aload_n hx hb d_M_goes_21 rfl (lv_at hl 0 rfl) ?_
    refine xr_geti hx hb hT hown hK hP sM_0 rfl inM 0 (by decide) wf_M_81 rfl d_M_goes_22 ?_
    refine lv_if_ne (tgt := 32) hx hb d_M_goes_25 rfl (fun hc => ?_) (fun hc => ?_)
    · have hf := ite_f hc hf
      refine lv_iconst (v := 0) hx hb d_M_goes_32 rfl ?_
      exact K33 0 M2 _ _ _  (lv_sub hl [] rfl) hP hS hf
    · have hf := ite_t hc hf
      refine lv_iconst (v := 1) hx hb d_M_goes_28 rfl ?_
      refine lv_goto (tgt := 33) hx hb d_M_goes_29 rfl ?_
      exact K33 1 M2 _ _ _  (lv_sub hl [] rfl) hP hS hf
  unfold fM_goes at hf
  refine lv_aload_n hx hb d_M_goes_0 rfl (lv_at hl 0 rfl) ?_
  refine lv_iload_n hx hb d_M_goes_1 rfl (lv_at hl 1 rfl) ?_
  refine lv_if_ne (tgt := 9) hx hb d_M_goes_2 rfl (fun hc => ?_) (fun hc => ?_)
  · have hf := ite_f hc hf
    refine lv_iload_n hx hb d_M_goes_9 rfl (lv_at hl 2 rfl) ?_
    refine lv_if_ne (tgt := 17) hx hb d_M_goes_10 rfl (fun hc => ?_) (fun hc => ?_)
    · have hf := ite_f hc hf
      refine lv_iconst (v := 0) hx hb d_M_goes_17 rfl ?_
      exact K18 0 M _ _ _  (lv_sub hl [0] rfl) hP hS hf
    · have hf := ite_t hc hf
      refine lv_iconst (v := 2) hx hb d_M_goes_13 rfl ?_
      refine lv_goto (tgt := 18) hx hb d_M_goes_14 rfl ?_
      exact K18 2 M _ _ _  (lv_sub hl [0] rfl) hP hS hf
  · have hf := ite_t hc hf
    refine lv_iconst (v := 1) hx hb d_M_goes_5 rfl ?_
    refine lv_goto (tgt := 18) hx hb d_M_goes_6 rfl ?_
    exact K18 1 M _ _ _  (lv_sub hl [0] rfl) hP hS hf
noncomputable def fM_forget_49 (M : Mem) : Option (Mem) := some M
noncomputable def gM_forget_29 (v1 : Int32) (M : Mem) : Option ((Int32 × Mem) ⊕ (Int32 × Mem)) := if 240 ≤ v1 then (some (.inl (v1, M))) else (xgd (vp_in v1 240) (xlt (up2 M 21 v1.toNatClampNeg (vp_nar .boolean 0)) (fun M2 => xlt (v1 + 1) (fun x3 => some (.inr (x3, M2))))))
noncomputable def bM_forget_29 : Int32 × Mem → Option ((Int32 × Mem) ⊕ (Int32 × Mem)) := fun st => gM_forget_29 st.1 st.2
noncomputable def fM_forget_27 (M : Mem) : Option (Mem) := xbd (xlp (bM_forget_29) (0, M)) (fun e29 => fM_forget_49  e29.2)
noncomputable def gM_forget_7 (v1 : Int32) (M : Mem) : Option ((Int32 × Mem) ⊕ (Int32 × Mem)) := if 864 ≤ v1 then (some (.inl (v1, M))) else (xgd (vp_in v1 864) (xlt (up2 M 17 v1.toNatClampNeg 0) (fun M8 => xlt (v1 + 1) (fun x9 => some (.inr (x9, M8))))))
noncomputable def bM_forget_7 : Int32 × Mem → Option ((Int32 × Mem) ⊕ (Int32 × Mem)) := fun st => gM_forget_7 st.1 st.2
noncomputable def fM_forget (M : Mem) : Option (Mem) := xlt (up2 M 0 7 0) (fun M10 => xbd (xlp (bM_forget_7) (0, M10)) (fun e7 => fM_forget_27  e7.2))
set_option maxHeartbeats 4000000 in
set_option maxRecDepth 100000 in
theorem tM_forget (l : Launch) (G : va_G) (c3 : ClassId × ClassId × ClassId) (ad : Nat → Nat) (hd : adI SM ad) (M : Mem) (out : Mem) (hf : fM_forget M = some out) : WMet l yM_forget cM_forget 2 none (rm0_ 0 0) G kl SM c3 ad M [.ref (ad 0)] none out := by
  refine WMet.of (by decide +kernel) (Nat.le_of_ble_eq_true rfl) (fun p e s m args below meth c ls F hT hK hP hr hlk hl hS => ?_)
  have hx := F.1
  have hb := F.2.1
  have F : CallFix p m c cM_forget 2 s args gw RM := F
  have hown := F.2.2.2.1
  have hl : lv_has ls 2 [(0, .ref (ad 0))] := hl
  revert hP hS
  suffices hall : ∀ (H : Heap) (locs : List Loc), va_P G kl (wd SM c3 ad M) H → va_S (adA SM ad) s.heap H locs → W p l e (rm0_ 0 0) s m args below meth c H locs 0 0 (MQ below (QW G kl SM c3 ad none out) args s 0 0 (adA SM ad)) (F0 m 0 ls []) from hall s.heap []
  intro H locs hP hS
  have K49 : ∀ (M : Mem) (H : Heap) (locs : List Loc) (ls : Array Slot), lv_has ls 2 [] → va_P G kl (wd SM c3 ad M) H → va_S (adA SM ad) s.heap H locs → fM_forget_49  M = some out → W p l e (rm0_ 0 0) s m args below meth c H locs 0 0 (MQ below (QW G kl SM c3 ad none out) args s 0 0 (adA SM ad)) (F0 m 49 ls []) := by
    intro  M H locs ls  hl hP hS hf
    unfold fM_forget_49 at hf
    exact xw_vret hx hb hr hlk hP hS (Option.some.inj hf) d_M_forget_49
  have K27 : ∀ (M : Mem) (H : Heap) (locs : List Loc) (ls : Array Slot), lv_has ls 2 [(0, .ref (ad 0))] → va_P G kl (wd SM c3 ad M) H → va_S (adA SM ad) s.heap H locs → fM_forget_27  M = some out → W p l e (rm0_ 0 0) s m args below meth c H locs 0 0 (MQ below (QW G kl SM c3 ad none out) args s 0 0 (adA SM ad)) (F0 m 27 ls []) := by
    intro  M H locs ls  hl hP hS hf
    unfold fM_forget_27 at hf
    refine lv_iconst (v := 0) hx hb d_M_forget_27 rfl ?_
    refine lv_istore_n (lv' := [(1, .int 0), (0, .ref (ad 0))]) hx hb d_M_forget_28 rfl hl (by decide) rfl (fun ls hl => ?_)
    obtain ⟨e29, he29, hk29⟩ := xbd_some hf
    obtain ⟨n29, hq29⟩ := xlp_n he29
    have LH29 : ∀ (n : Nat) (v1 : Int32) (M : Mem) (H : Heap) (locs : List Loc) (ls : Array Slot), lv_has ls 2 [(0, .ref (ad 0)), (1, .int v1)] → va_P G kl (wd SM c3 ad M) H → va_S (adA SM ad) s.heap H locs → xwh (bM_forget_29) n (v1, M) = some e29 → W p l e (rm0_ 0 0) s m args below meth c H locs 0 0 (MQ below (QW G kl SM c3 ad none out) args s 0 0 (adA SM ad)) (F0 m 29 ls []) := by
      intro n
      induction n with
      | zero =>
        intro v1 M H locs ls hl hP hS hn
        exact xwh_0 hn
      | succ n ih29 =>
        intro v1 M H locs ls hl hP hS hn29
        obtain ⟨o29, hf, hn29⟩ := xwh_s hn29
        have hf : gM_forget_29 v1 M = some o29 := hf
        unfold gM_forget_29 at hf
        refine lv_iload_n hx hb d_M_forget_29 rfl (lv_at hl 1 rfl) ?_
        refine lv_sipush (v := 240) hx hb d_M_forget_30 rfl ?_
        refine lv_icmp_ge (tgt := 49) hx hb d_M_forget_33 rfl (fun hc => ?_) (fun hc => ?_)
        · have hf := ite_t hc hf
          have he := xw_exit hf hn29
          subst he
          have hf := hk29
          exact K49  M _ _ _  (lv_sub hl [] rfl) hP hS hf
        · have hf := ite_f hc hf
          refine lv_aload_n hx hb d_M_forget_36 rfl (lv_at hl 0 rfl) ?_
          refine xr_getr hx hb hT hown hK hP sM_0 rfl inM 22 (by decide) wf_M_71 rfl d_M_forget_37 ?_
          refine lv_iload_n hx hb d_M_forget_40 rfl (lv_at hl 1 rfl) ?_
          refine lv_iconst (v := 0) hx hb d_M_forget_41 rfl ?_
          obtain ⟨g1, hf⟩ := xgd_some hf
          obtain ⟨M2, hM2, hf⟩ := xlt_some hf
          refine xr_zast hx hb hd hK hP hS sM_21 g1 d_M_forget_42 (fun H locs hP hS => ?_)
          rw [hM2] at hP
          obtain ⟨x3, hx3, hf⟩ := xlt_some hf
          refine lv_iinc (k := 1) (lv' := [(1, .int x3), (0, .ref (ad 0))]) hx hb d_M_forget_43 hl rfl hx3 (by decide) rfl (fun ls hl => ?_)
          refine lv_goto (tgt := 29) hx hb d_M_forget_46 rfl ?_
          exact ih29 x3 M2 _ _ _ (lv_sub hl [1, 0] rfl) hP hS (xw_again hf hn29)
    exact LH29 n29 0 M _ _ _ (lv_sub hl [1, 0] rfl) hP hS hq29
  unfold fM_forget at hf
  refine lv_aload_n hx hb d_M_forget_0 rfl (lv_at hl 0 rfl) ?_
  refine lv_iconst (v := 0) hx hb d_M_forget_1 rfl ?_
  obtain ⟨M4, hM4, hf⟩ := xlt_some hf
  refine xr_puti hx hb hT hown hd hK hP hS sM_0 rfl inM tyM tkM nmM 7 (by decide) wf_M_85 rfl fM_0_7 rfl rfl rfl d_M_forget_2 (fun H locs hP hS => ?_)
  rw [hM4] at hP
  refine lv_iconst (v := 0) hx hb d_M_forget_5 rfl ?_
  refine lv_istore_n (lv' := [(1, .int 0), (0, .ref (ad 0))]) hx hb d_M_forget_6 rfl hl (by decide) rfl (fun ls hl => ?_)
  obtain ⟨e7, he7, hk7⟩ := xbd_some hf
  obtain ⟨n7, hq7⟩ := xlp_n he7
  have LH7 : ∀ (n : Nat) (v1 : Int32) (M : Mem) (H : Heap) (locs : List Loc) (ls : Array Slot), lv_has ls 2 [(0, .ref (ad 0)), (1, .int v1)] → va_P G kl (wd SM c3 ad M) H → va_S (adA SM ad) s.heap H locs → xwh (bM_forget_7) n (v1, M) = some e7 → W p l e (rm0_ 0 0) s m args below meth c H locs 0 0 (MQ below (QW G kl SM c3 ad none out) args s 0 0 (adA SM ad)) (F0 m 7 ls []) := by
    intro n
    induction n with
    | zero =>
      intro v1 M H locs ls hl hP hS hn
      exact xwh_0 hn
    | succ n ih7 =>
      intro v1 M H locs ls hl hP hS hn7
      obtain ⟨o7, hf, hn7⟩ := xwh_s hn7
      have hf : gM_forget_7 v1 M = some o7 := hf
      unfold gM_forget_7 at hf
      refine lv_iload_n hx hb d_M_forget_7 rfl (lv_at hl 1 rfl) ?_
      refine lv_sipush (v := 864) hx hb d_M_forget_8 rfl ?_
      refine lv_icmp_ge (tgt := 27) hx hb d_M_forget_11 rfl (fun hc => ?_) (fun hc => ?_)
      · have hf := ite_t hc hf
        have he := xw_exit hf hn7
        subst he
        have hf := hk7
        exact K27  M _ _ _  (lv_sub hl [0] rfl) hP hS hf
      · have hf := ite_f hc hf
        refine lv_aload_n hx hb d_M_forget_14 rfl (lv_at hl 0 rfl) ?_
        refine xr_getr hx hb hT hown hK hP sM_0 rfl inM 18 (by decide) wf_M_59 rfl d_M_forget_15 ?_
        refine lv_iload_n hx hb d_M_forget_18 rfl (lv_at hl 1 rfl) ?_
        refine lv_iconst (v := 0) hx hb d_M_forget_19 rfl ?_
        obtain ⟨g5, hf⟩ := xgd_some hf
        obtain ⟨M6, hM6, hf⟩ := xlt_some hf
        refine xr_iast hx hb hd hK hP hS sM_17 g5 d_M_forget_20 (fun H locs hP hS => ?_)
        rw [hM6] at hP
        obtain ⟨x7, hx7, hf⟩ := xlt_some hf
        refine lv_iinc (k := 1) (lv' := [(1, .int x7), (0, .ref (ad 0))]) hx hb d_M_forget_21 hl rfl hx7 (by decide) rfl (fun ls hl => ?_)
        refine lv_goto (tgt := 7) hx hb d_M_forget_24 rfl ?_
        exact ih7 x7 M6 _ _ _ (lv_sub hl [1, 0] rfl) hP hS (xw_again hf hn7)
  exact LH7 n7 0 M4 _ _ _ (lv_sub hl [1, 0] rfl) hP hS hq7
noncomputable def fM_paper (a1 a2 : Int32) (M : Mem) : Option (Int32 × Mem) := xbd (fM_isPaper a1) (fun r1 => xbd (fM_within a2 0 300) (fun r2 => xbd (fM_goes r1 r2 M) (fun r3 => if r3.1 = 0 then (some (0, r3.2)) else (xgd (vp_in a1 9) (xlt ((r3.2 1 a1.toNatClampNeg)) (fun x5 => xgd (vp_in a1 9) (xlt (up2 r3.2 1 a1.toNatClampNeg a2) (fun M7 => xbd (fM_forget  M7) (fun r8 => some (x5, r8))))))))))
set_option maxHeartbeats 4000000 in
set_option maxRecDepth 100000 in
theorem tM_paper (l : Launch) (G : va_G) (c3 : ClassId × ClassId × ClassId) (ad : Nat → Nat) (hd : adI SM ad) (M : Mem) (a1 a2 : Int32) (o1 : Int32) (o2 : Mem) (hf : fM_paper a1 a2 M = some (o1, o2)) : WMet l yM_paper cM_paper 4 (some .int) (rm0_ 1 22) G kl SM c3 ad M [.ref (ad 0), .int a1, .int a2] (some (.int o1)) o2 := by
  generalize hout : (o1, o2) = out at hf
  obtain rfl : out.1 = o1 := by rw [← hout]
  obtain rfl : out.2 = o2 := by rw [← hout]
  clear hout
  refine WMet.of (by decide +kernel) (Nat.le_of_ble_eq_true rfl) (fun p e s m args below meth c ls F hT hK hP hr hlk hl hS => ?_)
  have hx := F.1
  have hb := F.2.1
  have F : CallFix p m c cM_paper 4 s args gw RM := F
  have hown := F.2.2.2.1
  have hl : lv_has ls 4 [(0, .ref (ad 0)), (1, .int a1), (2, .int a2)] := hl
  revert hP hS
  suffices hall : ∀ (H : Heap) (locs : List Loc), va_P G kl (wd SM c3 ad M) H → va_S (adA SM ad) s.heap H locs → W p l e (rm0_ 1 22) s m args below meth c H locs 0 0 (MQ below (QW G kl SM c3 ad (some (.int out.1)) out.2) args s 0 0 (adA SM ad)) (F0 m 0 ls []) from hall s.heap []
  intro H locs hP hS
  unfold fM_paper at hf
  refine lv_aload_n hx hb d_M_paper_0 rfl (lv_at hl 0 rfl) ?_
  refine lv_iload_n hx hb d_M_paper_1 rfl (lv_at hl 1 rfl) ?_
  obtain ⟨r1, hr1, hf⟩ := xbd_some hf
  refine xc_rs (rest := [.ref (ad 0)]) F hT hK hP (tM_isPaper l G c3 ad M a1 r1 hr1) wl_M_89 ws_M_isPaper wn_M wc_M_isPaper ck_M_isPaper ⟨rfl, rfl⟩ ⟨by decide, by decide⟩ ⟨Nat.le_refl _, Nat.le_refl _⟩ hl.1 rfl (Nat.le_of_ble_eq_true rfl) d_M_paper_2 ?_
  refine lv_iload_n hx hb d_M_paper_5 rfl (lv_at hl 2 rfl) ?_
  refine lv_iconst (v := 0) hx hb d_M_paper_6 rfl ?_
  refine lv_sipush (v := 300) hx hb d_M_paper_7 rfl ?_
  obtain ⟨r2, hr2, hf⟩ := xbd_some hf
  refine xc_rs (rest := [.int r1, .ref (ad 0)]) F hT hK hP (tM_within l G c3 ad M a2 0 300 r2 hr2) wl_M_93 ws_M_within wn_M wc_M_within ck_M_within ⟨rfl, rfl⟩ ⟨by decide, by decide⟩ ⟨Nat.le_refl _, Nat.le_refl _⟩ hl.1 rfl (Nat.le_of_ble_eq_true rfl) d_M_paper_10 ?_
  obtain ⟨r3, hr3, hf⟩ := xbd_some hf
  refine xc_wv (rest := []) F hT hK hP hS (fun _ h => h) (tM_goes l G c3 ad hd M r1 r2 r3.1 r3.2 hr3) sM_0 rfl wl_M_97 wi_M_goes we_M_goes wn_M wc_M_goes ck_M_goes ⟨rfl, rfl⟩ ⟨by decide, by decide⟩ ⟨Nat.le_refl _, Nat.le_refl _⟩ hl.1 rfl (Nat.le_of_ble_eq_true rfl) d_M_paper_13 (fun H locs hP hS _ => ?_)
  refine lv_if_ne (tgt := 21) hx hb d_M_paper_16 rfl (fun hc => ?_) (fun hc => ?_)
  · have hf := ite_f hc hf
    refine lv_aload_n hx hb d_M_paper_21 rfl (lv_at hl 0 rfl) ?_
    refine xr_getr hx hb hT hown hK hP sM_0 rfl inM 1 (by decide) wf_M_7 rfl d_M_paper_22 ?_
    refine lv_iload_n hx hb d_M_paper_25 rfl (lv_at hl 1 rfl) ?_
    obtain ⟨g4, hf⟩ := xgd_some hf
    refine xr_iald hx hb hK hP sM_1 g4 d_M_paper_26 ?_
    obtain ⟨x5, hx5, hf⟩ := xlt_some hf
    refine xr_name hx5 ?_
    refine lv_istore_n (lv' := [(3, .int x5), (0, .ref (ad 0)), (1, .int a1), (2, .int a2)]) hx hb d_M_paper_27 rfl hl (by decide) rfl (fun ls hl => ?_)
    refine lv_aload_n hx hb d_M_paper_28 rfl (lv_at hl 1 rfl) ?_
    refine xr_getr hx hb hT hown hK hP sM_0 rfl inM 1 (by decide) wf_M_7 rfl d_M_paper_29 ?_
    refine lv_iload_n hx hb d_M_paper_32 rfl (lv_at hl 2 rfl) ?_
    refine lv_iload_n hx hb d_M_paper_33 rfl (lv_at hl 3 rfl) ?_
    obtain ⟨g6, hf⟩ := xgd_some hf
    obtain ⟨M7, hM7, hf⟩ := xlt_some hf
    refine xr_iast hx hb hd hK hP hS sM_1 g6 d_M_paper_34 (fun H locs hP hS => ?_)
    rw [hM7] at hP
    refine lv_aload_n hx hb d_M_paper_35 rfl (lv_at hl 1 rfl) ?_
    obtain ⟨r8, hr8, hf⟩ := xbd_some hf
    refine xc_wv (rest := []) F hT hK hP hS (fun _ h => h) (tM_forget l G c3 ad hd M7  r8 hr8) sM_0 rfl wl_M_101 wi_M_forget we_M_forget wn_M wc_M_forget ck_M_forget ⟨rfl, rfl⟩ ⟨by decide, by decide⟩ ⟨Nat.le_refl _, Nat.le_refl _⟩ hl.1 rfl (Nat.le_of_ble_eq_true rfl) d_M_paper_36 (fun H locs hP hS _ => ?_)
    refine lv_iload_n hx hb d_M_paper_39 rfl (lv_at hl 0 rfl) ?_
    exact xw_iret hx hb hr hlk hP hS (Option.some.inj hf) d_M_paper_40
  · have hf := ite_t hc hf
    refine lv_iconst (v := 0) hx hb d_M_paper_19 rfl ?_
    exact xw_iret hx hb hr hlk hP hS (Option.some.inj hf) d_M_paper_20
noncomputable def fM_isSession_15 (s15_0 : Int32) : Option (Int32) := xgd (s15_0 = 0 ∨ s15_0 = 1) (some s15_0)
noncomputable def fM_isSession_14 : Option (Int32) := fM_isSession_15 0
noncomputable def fM_isSession (a0 : Int32) : Option (Int32) := if a0 < 0 then (fM_isSession_14) else (if 6 ≤ a0 then (fM_isSession_14) else (fM_isSession_15 1))
set_option maxHeartbeats 4000000 in
set_option maxRecDepth 100000 in
theorem tM_isSession (l : Launch) (G : va_G) (c3 : ClassId × ClassId × ClassId) (ad : Nat → Nat) (M : Mem) (a0 : Int32) (out : Int32) (hf : fM_isSession a0 = some out) : RMet l yM_isSession cM_isSession 1 (some .boolean) (rm0_ 0 0) G kl SM c3 ad M [.int a0] out := by
  refine RMet.of (by decide +kernel) (Nat.le_of_ble_eq_true rfl) (fun p e s m args below meth c ls F hT hK hP hr hlk hl => ?_)
  have hx := F.1
  have hb := F.2.1
  have F : CallFix p m c cM_isSession 1 s args gw RM := F
  have hown := F.2.2.2.1
  have hl : lv_has ls 1 [(0, .int a0)] := hl
  have K15 : ∀ (s15_0 : Int32) (ls : Array Slot), lv_has ls 1 [] → fM_isSession_15 s15_0 = some out → W p l e (rm0_ 0 0) s m args below meth c s.heap [] 0 0 (MQ below (QcRead out) args s 0 0 (fun _ => False)) (F0 m 15 ls [.int s15_0]) := by
    intro s15_0 ls  hl hf
    unfold fM_isSession_15 at hf
    obtain ⟨z1, hf⟩ := xgd_some hf
    exact xr_zret hx hb hr hlk z1 (Option.some.inj hf) d_M_isSession_15
  have K14 : ∀ (ls : Array Slot), lv_has ls 1 [] → fM_isSession_14 = some out → W p l e (rm0_ 0 0) s m args below meth c s.heap [] 0 0 (MQ below (QcRead out) args s 0 0 (fun _ => False)) (F0 m 14 ls []) := by
    intro  ls  hl hf
    unfold fM_isSession_14 at hf
    refine lv_iconst (v := 0) hx hb d_M_isSession_14 rfl ?_
    exact K15 0 _  hl hf
  unfold fM_isSession at hf
  refine lv_iload_n hx hb d_M_isSession_0 rfl (lv_at hl 0 rfl) ?_
  refine lv_if_lt (tgt := 14) hx hb d_M_isSession_1 rfl (fun hc => ?_) (fun hc => ?_)
  · have hf := ite_t hc hf
    exact K14  _  (lv_sub hl [] rfl) hf
  · have hf := ite_f hc hf
    refine lv_iload_n hx hb d_M_isSession_4 rfl (lv_at hl 0 rfl) ?_
    refine lv_bipush (v := 6) hx hb d_M_isSession_5 rfl ?_
    refine lv_icmp_ge (tgt := 14) hx hb d_M_isSession_7 rfl (fun hc => ?_) (fun hc => ?_)
    · have hf := ite_t hc hf
      exact K14  _  (lv_sub hl [] rfl) hf
    · have hf := ite_f hc hf
      refine lv_iconst (v := 1) hx hb d_M_isSession_10 rfl ?_
      refine lv_goto (tgt := 15) hx hb d_M_isSession_11 rfl ?_
      exact K15 1 _  (lv_sub hl [] rfl) hf
noncomputable def fM_session (a1 a2 : Int32) (M : Mem) : Option (Int32 × Mem) := xbd (fM_isSession a1) (fun r1 => xbd (fM_within a2 0 300) (fun r2 => xbd (fM_goes r1 r2 M) (fun r3 => if r3.1 = 0 then (some (0, r3.2)) else (xgd (vp_in a1 6) (xlt ((r3.2 2 a1.toNatClampNeg)) (fun x5 => xgd (vp_in a1 6) (xlt (up2 r3.2 2 a1.toNatClampNeg a2) (fun M7 => xbd (fM_forget  M7) (fun r8 => some (x5, r8))))))))))
set_option maxHeartbeats 4000000 in
set_option maxRecDepth 100000 in
theorem tM_session (l : Launch) (G : va_G) (c3 : ClassId × ClassId × ClassId) (ad : Nat → Nat) (hd : adI SM ad) (M : Mem) (a1 a2 : Int32) (o1 : Int32) (o2 : Mem) (hf : fM_session a1 a2 M = some (o1, o2)) : WMet l yM_session cM_session 4 (some .int) (rm0_ 1 22) G kl SM c3 ad M [.ref (ad 0), .int a1, .int a2] (some (.int o1)) o2 := by
  generalize hout : (o1, o2) = out at hf
  obtain rfl : out.1 = o1 := by rw [← hout]
  obtain rfl : out.2 = o2 := by rw [← hout]
  clear hout
  refine WMet.of (by decide +kernel) (Nat.le_of_ble_eq_true rfl) (fun p e s m args below meth c ls F hT hK hP hr hlk hl hS => ?_)
  have hx := F.1
  have hb := F.2.1
  have F : CallFix p m c cM_session 4 s args gw RM := F
  have hown := F.2.2.2.1
  have hl : lv_has ls 4 [(0, .ref (ad 0)), (1, .int a1), (2, .int a2)] := hl
  revert hP hS
  suffices hall : ∀ (H : Heap) (locs : List Loc), va_P G kl (wd SM c3 ad M) H → va_S (adA SM ad) s.heap H locs → W p l e (rm0_ 1 22) s m args below meth c H locs 0 0 (MQ below (QW G kl SM c3 ad (some (.int out.1)) out.2) args s 0 0 (adA SM ad)) (F0 m 0 ls []) from hall s.heap []
  intro H locs hP hS
  unfold fM_session at hf
  refine lv_aload_n hx hb d_M_session_0 rfl (lv_at hl 0 rfl) ?_
  refine lv_iload_n hx hb d_M_session_1 rfl (lv_at hl 1 rfl) ?_
  obtain ⟨r1, hr1, hf⟩ := xbd_some hf
  refine xc_rs (rest := [.ref (ad 0)]) F hT hK hP (tM_isSession l G c3 ad M a1 r1 hr1) wl_M_104 ws_M_isSession wn_M wc_M_isSession ck_M_isSession ⟨rfl, rfl⟩ ⟨by decide, by decide⟩ ⟨Nat.le_refl _, Nat.le_refl _⟩ hl.1 rfl (Nat.le_of_ble_eq_true rfl) d_M_session_2 ?_
  refine lv_iload_n hx hb d_M_session_5 rfl (lv_at hl 2 rfl) ?_
  refine lv_iconst (v := 0) hx hb d_M_session_6 rfl ?_
  refine lv_sipush (v := 300) hx hb d_M_session_7 rfl ?_
  obtain ⟨r2, hr2, hf⟩ := xbd_some hf
  refine xc_rs (rest := [.int r1, .ref (ad 0)]) F hT hK hP (tM_within l G c3 ad M a2 0 300 r2 hr2) wl_M_93 ws_M_within wn_M wc_M_within ck_M_within ⟨rfl, rfl⟩ ⟨by decide, by decide⟩ ⟨Nat.le_refl _, Nat.le_refl _⟩ hl.1 rfl (Nat.le_of_ble_eq_true rfl) d_M_session_10 ?_
  obtain ⟨r3, hr3, hf⟩ := xbd_some hf
  refine xc_wv (rest := []) F hT hK hP hS (fun _ h => h) (tM_goes l G c3 ad hd M r1 r2 r3.1 r3.2 hr3) sM_0 rfl wl_M_97 wi_M_goes we_M_goes wn_M wc_M_goes ck_M_goes ⟨rfl, rfl⟩ ⟨by decide, by decide⟩ ⟨Nat.le_refl _, Nat.le_refl _⟩ hl.1 rfl (Nat.le_of_ble_eq_true rfl) d_M_session_13 (fun H locs hP hS _ => ?_)
  refine lv_if_ne (tgt := 21) hx hb d_M_session_16 rfl (fun hc => ?_) (fun hc => ?_)
  · have hf := ite_f hc hf
    refine lv_aload_n hx hb d_M_session_21 rfl (lv_at hl 0 rfl) ?_
    refine xr_getr hx hb hT hown hK hP sM_0 rfl inM 2 (by decide) wf_M_13 rfl d_M_session_22 ?_
    refine lv_iload_n hx hb d_M_session_25 rfl (lv_at hl 1 rfl) ?_
    obtain ⟨g4, hf⟩ := xgd_some hf
    refine xr_iald hx hb hK hP sM_2 g4 d_M_session_26 ?_
    obtain ⟨x5, hx5, hf⟩ := xlt_some hf
    refine xr_name hx5 ?_
    refine lv_istore_n (lv' := [(3, .int x5), (0, .ref (ad 0)), (1, .int a1), (2, .int a2)]) hx hb d_M_session_27 rfl hl (by decide) rfl (fun ls hl => ?_)
    refine lv_aload_n hx hb d_M_session_28 rfl (lv_at hl 1 rfl) ?_
    refine xr_getr hx hb hT hown hK hP sM_0 rfl inM 2 (by decide) wf_M_13 rfl d_M_session_29 ?_
    refine lv_iload_n hx hb d_M_session_32 rfl (lv_at hl 2 rfl) ?_
    refine lv_iload_n hx hb d_M_session_33 rfl (lv_at hl 3 rfl) ?_
    obtain ⟨g6, hf⟩ := xgd_some hf
    obtain ⟨M7, hM7, hf⟩ := xlt_some hf
    refine xr_iast hx hb hd hK hP hS sM_2 g6 d_M_session_34 (fun H locs hP hS => ?_)
    rw [hM7] at hP
    refine lv_aload_n hx hb d_M_session_35 rfl (lv_at hl 1 rfl) ?_
    obtain ⟨r8, hr8, hf⟩ := xbd_some hf
    refine xc_wv (rest := []) F hT hK hP hS (fun _ h => h) (tM_forget l G c3 ad hd M7  r8 hr8) sM_0 rfl wl_M_101 wi_M_forget we_M_forget wn_M wc_M_forget ck_M_forget ⟨rfl, rfl⟩ ⟨by decide, by decide⟩ ⟨Nat.le_refl _, Nat.le_refl _⟩ hl.1 rfl (Nat.le_of_ble_eq_true rfl) d_M_session_36 (fun H locs hP hS _ => ?_)
    refine lv_iload_n hx hb d_M_session_39 rfl (lv_at hl 0 rfl) ?_
    exact xw_iret hx hb hr hlk hP hS (Option.some.inj hf) d_M_session_40
  · have hf := ite_t hc hf
    refine lv_iconst (v := 0) hx hb d_M_session_19 rfl ?_
    exact xw_iret hx hb hr hlk hP hS (Option.some.inj hf) d_M_session_20
noncomputable def fM_isCandidate_15 (s15_0 : Int32) : Option (Int32) := xgd (s15_0 = 0 ∨ s15_0 = 1) (some s15_0)
noncomputable def fM_isCandidate_14 : Option (Int32) := fM_isCandidate_15 0
noncomputable def fM_isCandidate (a0 : Int32) : Option (Int32) := if a0 < 0 then (fM_isCandidate_14) else (if 40 ≤ a0 then (fM_isCandidate_14) else (fM_isCandidate_15 1))
set_option maxHeartbeats 4000000 in
set_option maxRecDepth 100000 in
theorem tM_isCandidate (l : Launch) (G : va_G) (c3 : ClassId × ClassId × ClassId) (ad : Nat → Nat) (M : Mem) (a0 : Int32) (out : Int32) (hf : fM_isCandidate a0 = some out) : RMet l yM_isCandidate cM_isCandidate 1 (some .boolean) (rm0_ 0 0) G kl SM c3 ad M [.int a0] out := by
  refine RMet.of (by decide +kernel) (Nat.le_of_ble_eq_true rfl) (fun p e s m args below meth c ls F hT hK hP hr hlk hl => ?_)
  have hx := F.1
  have hb := F.2.1
  have F : CallFix p m c cM_isCandidate 1 s args gw RM := F
  have hown := F.2.2.2.1
  have hl : lv_has ls 1 [(0, .int a0)] := hl
  have K15 : ∀ (s15_0 : Int32) (ls : Array Slot), lv_has ls 1 [] → fM_isCandidate_15 s15_0 = some out → W p l e (rm0_ 0 0) s m args below meth c s.heap [] 0 0 (MQ below (QcRead out) args s 0 0 (fun _ => False)) (F0 m 15 ls [.int s15_0]) := by
    intro s15_0 ls  hl hf
    unfold fM_isCandidate_15 at hf
    obtain ⟨z1, hf⟩ := xgd_some hf
    exact xr_zret hx hb hr hlk z1 (Option.some.inj hf) d_M_isCandidate_15
  have K14 : ∀ (ls : Array Slot), lv_has ls 1 [] → fM_isCandidate_14 = some out → W p l e (rm0_ 0 0) s m args below meth c s.heap [] 0 0 (MQ below (QcRead out) args s 0 0 (fun _ => False)) (F0 m 14 ls []) := by
    intro  ls  hl hf
    unfold fM_isCandidate_14 at hf
    refine lv_iconst (v := 0) hx hb d_M_isCandidate_14 rfl ?_
    exact K15 0 _  hl hf
  unfold fM_isCandidate at hf
  refine lv_iload_n hx hb d_M_isCandidate_0 rfl (lv_at hl 0 rfl) ?_
  refine lv_if_lt (tgt := 14) hx hb d_M_isCandidate_1 rfl (fun hc => ?_) (fun hc => ?_)
  · have hf := ite_t hc hf
    exact K14  _  (lv_sub hl [] rfl) hf
  · have hf := ite_f hc hf
    refine lv_iload_n hx hb d_M_isCandidate_4 rfl (lv_at hl 0 rfl) ?_
    refine lv_bipush (v := 40) hx hb d_M_isCandidate_5 rfl ?_
    refine lv_icmp_ge (tgt := 14) hx hb d_M_isCandidate_7 rfl (fun hc => ?_) (fun hc => ?_)
    · have hf := ite_t hc hf
      exact K14  _  (lv_sub hl [] rfl) hf
    · have hf := ite_f hc hf
      refine lv_iconst (v := 1) hx hb d_M_isCandidate_10 rfl ?_
      refine lv_goto (tgt := 15) hx hb d_M_isCandidate_11 rfl ?_
      exact K15 1 _  (lv_sub hl [] rfl) hf
noncomputable def fM_enrol_72 (v4 : Int32) (M : Mem) : Option (Int32 × Mem) := xgd (v4 = 0 ∨ v4 = 1) (some (v4, M))
noncomputable def fM_enrol_49 (v1 v2 v3 s49_0 : Int32) (M : Mem) : Option (Int32 × Mem) := xgd (vp_in ((9 * v1) + v2) 360) (xlt (up2 M 4 (((9 * v1) + v2).toNatClampNeg) (vp_nar .boolean v3)) (fun M3 => if s49_0 = 0 then (fM_enrol_72 s49_0 M3) else (xbd (fM_forget  M3) (fun r4 => fM_enrol_72 s49_0 r4))))
noncomputable def fM_enrol_20 (v1 v2 v3 s20_0 : Int32) (M : Mem) : Option (Int32 × Mem) := xbd (fM_goes s20_0 1 M) (fun r5 => if r5.1 = 0 then (xgd ((0 : Int32) = 0 ∨ (0 : Int32) = 1) (some (0, r5.2))) else (xlt (((9 * v1) + v2)) (fun x6 => xgd (vp_in x6 360) (if (r5.2 4 x6.toNatClampNeg) = v3 then (fM_enrol_49 v1 v2 v3 0 r5.2) else (fM_enrol_49 v1 v2 v3 1 r5.2)))))
noncomputable def fM_enrol_19 (v1 v2 v3 : Int32) (M : Mem) : Option (Int32 × Mem) := fM_enrol_20 v1 v2 v3 0 M
noncomputable def fM_enrol (a1 a2 a3 : Int32) (M : Mem) : Option (Int32 × Mem) := xbd (fM_isCandidate a1) (fun r9 => if r9 = 0 then (fM_enrol_19 a1 a2 a3 M) else (xbd (fM_isPaper a2) (fun r10 => if r10 = 0 then (fM_enrol_19 a1 a2 a3 M) else (fM_enrol_20 a1 a2 a3 1 M))))
set_option maxHeartbeats 4000000 in
set_option maxRecDepth 100000 in
theorem tM_enrol (l : Launch) (G : va_G) (c3 : ClassId × ClassId × ClassId) (ad : Nat → Nat) (hd : adI SM ad) (M : Mem) (a1 a2 a3 : Int32) (o1 : Int32) (o2 : Mem) (hf : fM_enrol a1 a2 a3 M = some (o1, o2)) : WMet l yM_enrol cM_enrol 5 (some .boolean) (rm0_ 1 22) G kl SM c3 ad M [.ref (ad 0), .int a1, .int a2, .int a3] (some (.int o1)) o2 := by
  generalize hout : (o1, o2) = out at hf
  obtain rfl : out.1 = o1 := by rw [← hout]
  obtain rfl : out.2 = o2 := by rw [← hout]
  clear hout
  refine WMet.of (by decide +kernel) (Nat.le_of_ble_eq_true rfl) (fun p e s m args below meth c ls F hT hK hP hr hlk hl hS => ?_)
  have hx := F.1
  have hb := F.2.1
  have F : CallFix p m c cM_enrol 5 s args gw RM := F
  have hown := F.2.2.2.1
  have hl : lv_has ls 5 [(0, .ref (ad 0)), (1, .int a1), (2, .int a2), (3, .int a3)] := hl
  revert hP hS
  suffices hall : ∀ (H : Heap) (locs : List Loc), va_P G kl (wd SM c3 ad M) H → va_S (adA SM ad) s.heap H locs → W p l e (rm0_ 1 22) s m args below meth c H locs 0 0 (MQ below (QW G kl SM c3 ad (some (.int out.1)) out.2) args s 0 0 (adA SM ad)) (F0 m 0 ls []) from hall s.heap []
  intro H locs hP hS
  have K72 : ∀ (v4 : Int32) (M : Mem) (H : Heap) (locs : List Loc) (ls : Array Slot), lv_has ls 5 [(4, .int v4)] → va_P G kl (wd SM c3 ad M) H → va_S (adA SM ad) s.heap H locs → fM_enrol_72 v4 M = some out → W p l e (rm0_ 1 22) s m args below meth c H locs 0 0 (MQ below (QW G kl SM c3 ad (some (.int out.1)) out.2) args s 0 0 (adA SM ad)) (F0 m 72 ls []) := by
    intro v4 M H locs ls  hl hP hS hf
    unfold fM_enrol_72 at hf
    refine lv_iload hx hb d_M_enrol_72 (lv_at hl 0 rfl) ?_
    obtain ⟨z1, hf⟩ := xgd_some hf
    exact xw_zret hx hb hr hlk hP hS z1 (Option.some.inj hf) d_M_enrol_74
  have K49 : ∀ (v1 v2 v3 s49_0 : Int32) (M : Mem) (H : Heap) (locs : List Loc) (ls : Array Slot), lv_has ls 5 [(0, .ref (ad 0)), (1, .int v1), (2, .int v2), (3, .int v3)] → va_P G kl (wd SM c3 ad M) H → va_S (adA SM ad) s.heap H locs → fM_enrol_49 v1 v2 v3 s49_0 M = some out → W p l e (rm0_ 1 22) s m args below meth c H locs 0 0 (MQ below (QW G kl SM c3 ad (some (.int out.1)) out.2) args s 0 0 (adA SM ad)) (F0 m 49 ls [.int s49_0]) := by
    intro v1 v2 v3 s49_0 M H locs ls  hl hP hS hf
    unfold fM_enrol_49 at hf
    refine lv_istore (lv' := [(4, .int s49_0), (0, .ref (ad 0)), (1, .int v1), (2, .int v2), (3, .int v3)]) hx hb d_M_enrol_49 hl (by decide) rfl (fun ls hl => ?_)
    refine lv_aload_n hx hb d_M_enrol_51 rfl (lv_at hl 1 rfl) ?_
    refine xr_getr hx hb hT hown hK hP sM_0 rfl inM 4 (by decide) wf_M_19 rfl d_M_enrol_52 ?_
    refine lv_bipush (v := 9) hx hb d_M_enrol_55 rfl ?_
    refine lv_iload_n hx hb d_M_enrol_57 rfl (lv_at hl 2 rfl) ?_
    refine lv_imul hx hb d_M_enrol_58 ?_
    refine lv_iload_n hx hb d_M_enrol_59 rfl (lv_at hl 3 rfl) ?_
    refine lv_iadd hx hb d_M_enrol_60 ?_
    refine lv_iload_n hx hb d_M_enrol_61 rfl (lv_at hl 4 rfl) ?_
    obtain ⟨g2, hf⟩ := xgd_some hf
    obtain ⟨M3, hM3, hf⟩ := xlt_some hf
    refine xr_zast hx hb hd hK hP hS sM_4 g2 d_M_enrol_62 (fun H locs hP hS => ?_)
    rw [hM3] at hP
    refine lv_iload hx hb d_M_enrol_63 (lv_at hl 0 rfl) ?_
    refine lv_if_eq (tgt := 72) hx hb d_M_enrol_65 rfl (fun hc => ?_) (fun hc => ?_)
    · have hf := ite_t hc hf
      exact K72 s49_0 M3 _ _ _  (lv_sub hl [0] rfl) hP hS hf
    · have hf := ite_f hc hf
      refine lv_aload_n hx hb d_M_enrol_68 rfl (lv_at hl 1 rfl) ?_
      obtain ⟨r4, hr4, hf⟩ := xbd_some hf
      refine xc_wv (rest := []) F hT hK hP hS (fun _ h => h) (tM_forget l G c3 ad hd M3  r4 hr4) sM_0 rfl wl_M_101 wi_M_forget we_M_forget wn_M wc_M_forget ck_M_forget ⟨rfl, rfl⟩ ⟨by decide, by decide⟩ ⟨Nat.le_refl _, Nat.le_refl _⟩ hl.1 rfl (Nat.le_of_ble_eq_true rfl) d_M_enrol_69 (fun H locs hP hS _ => ?_)
      exact K72 s49_0 r4 _ _ _  (lv_sub hl [0] rfl) hP hS hf
  have K20 : ∀ (v1 v2 v3 s20_0 : Int32) (M : Mem) (H : Heap) (locs : List Loc) (ls : Array Slot), lv_has ls 5 [(0, .ref (ad 0)), (1, .int v1), (2, .int v2), (3, .int v3)] → va_P G kl (wd SM c3 ad M) H → va_S (adA SM ad) s.heap H locs → fM_enrol_20 v1 v2 v3 s20_0 M = some out → W p l e (rm0_ 1 22) s m args below meth c H locs 0 0 (MQ below (QW G kl SM c3 ad (some (.int out.1)) out.2) args s 0 0 (adA SM ad)) (F0 m 20 ls [.int s20_0, .ref (ad 0)]) := by
    intro v1 v2 v3 s20_0 M H locs ls  hl hP hS hf
    unfold fM_enrol_20 at hf
    refine lv_iconst (v := 1) hx hb d_M_enrol_20 rfl ?_
    obtain ⟨r5, hr5, hf⟩ := xbd_some hf
    refine xc_wv (rest := []) F hT hK hP hS (fun _ h => h) (tM_goes l G c3 ad hd M s20_0 1 r5.1 r5.2 hr5) sM_0 rfl wl_M_97 wi_M_goes we_M_goes wn_M wc_M_goes ck_M_goes ⟨rfl, rfl⟩ ⟨by decide, by decide⟩ ⟨Nat.le_refl _, Nat.le_refl _⟩ hl.1 rfl (Nat.le_of_ble_eq_true rfl) d_M_enrol_21 (fun H locs hP hS _ => ?_)
    refine lv_if_ne (tgt := 29) hx hb d_M_enrol_24 rfl (fun hc => ?_) (fun hc => ?_)
    · have hf := ite_f hc hf
      refine lv_aload_n hx hb d_M_enrol_29 rfl (lv_at hl 0 rfl) ?_
      refine xr_getr hx hb hT hown hK hP sM_0 rfl inM 4 (by decide) wf_M_19 rfl d_M_enrol_30 ?_
      refine lv_bipush (v := 9) hx hb d_M_enrol_33 rfl ?_
      refine lv_iload_n hx hb d_M_enrol_35 rfl (lv_at hl 1 rfl) ?_
      refine lv_imul hx hb d_M_enrol_36 ?_
      refine lv_iload_n hx hb d_M_enrol_37 rfl (lv_at hl 2 rfl) ?_
      refine lv_iadd hx hb d_M_enrol_38 ?_
      obtain ⟨x6, hx6, hf⟩ := xlt_some hf
      refine xr_name hx6 ?_
      obtain ⟨g7, hf⟩ := xgd_some hf
      refine xr_zald hx hb hK hP sM_4 g7 d_M_enrol_39 ?_
      refine lv_iload_n hx hb d_M_enrol_40 rfl (lv_at hl 3 rfl) ?_
      refine lv_icmp_eq (tgt := 48) hx hb d_M_enrol_41 rfl (fun hc => ?_) (fun hc => ?_)
      · have hf := ite_t hc hf
        refine lv_iconst (v := 0) hx hb d_M_enrol_48 rfl ?_
        exact K49 v1 v2 v3 0 r5.2 _ _ _  hl hP hS hf
      · have hf := ite_f hc hf
        refine lv_iconst (v := 1) hx hb d_M_enrol_44 rfl ?_
        refine lv_goto (tgt := 49) hx hb d_M_enrol_45 rfl ?_
        exact K49 v1 v2 v3 1 r5.2 _ _ _  hl hP hS hf
    · have hf := ite_t hc hf
      refine lv_iconst (v := 0) hx hb d_M_enrol_27 rfl ?_
      obtain ⟨z8, hf⟩ := xgd_some hf
      exact xw_zret hx hb hr hlk hP hS z8 (Option.some.inj hf) d_M_enrol_28
  have K19 : ∀ (v1 v2 v3 : Int32) (M : Mem) (H : Heap) (locs : List Loc) (ls : Array Slot), lv_has ls 5 [(0, .ref (ad 0)), (1, .int v1), (2, .int v2), (3, .int v3)] → va_P G kl (wd SM c3 ad M) H → va_S (adA SM ad) s.heap H locs → fM_enrol_19 v1 v2 v3 M = some out → W p l e (rm0_ 1 22) s m args below meth c H locs 0 0 (MQ below (QW G kl SM c3 ad (some (.int out.1)) out.2) args s 0 0 (adA SM ad)) (F0 m 19 ls [.ref (ad 0)]) := by
    intro v1 v2 v3 M H locs ls  hl hP hS hf
    unfold fM_enrol_19 at hf
    refine lv_iconst (v := 0) hx hb d_M_enrol_19 rfl ?_
    exact K20 v1 v2 v3 0 M _ _ _  hl hP hS hf
  unfold fM_enrol at hf
  refine lv_aload_n hx hb d_M_enrol_0 rfl (lv_at hl 0 rfl) ?_
  refine lv_iload_n hx hb d_M_enrol_1 rfl (lv_at hl 1 rfl) ?_
  obtain ⟨r9, hr9, hf⟩ := xbd_some hf
  refine xc_rs (rest := [.ref (ad 0)]) F hT hK hP (tM_isCandidate l G c3 ad M a1 r9 hr9) wl_M_107 ws_M_isCandidate wn_M wc_M_isCandidate ck_M_isCandidate ⟨rfl, rfl⟩ ⟨by decide, by decide⟩ ⟨Nat.le_refl _, Nat.le_refl _⟩ hl.1 rfl (Nat.le_of_ble_eq_true rfl) d_M_enrol_2 ?_
  refine lv_if_eq (tgt := 19) hx hb d_M_enrol_5 rfl (fun hc => ?_) (fun hc => ?_)
  · have hf := ite_t hc hf
    exact K19 a1 a2 a3 M _ _ _  hl hP hS hf
  · have hf := ite_f hc hf
    refine lv_iload_n hx hb d_M_enrol_8 rfl (lv_at hl 2 rfl) ?_
    obtain ⟨r10, hr10, hf⟩ := xbd_some hf
    refine xc_rs (rest := [.ref (ad 0)]) F hT hK hP (tM_isPaper l G c3 ad M a2 r10 hr10) wl_M_89 ws_M_isPaper wn_M wc_M_isPaper ck_M_isPaper ⟨rfl, rfl⟩ ⟨by decide, by decide⟩ ⟨Nat.le_refl _, Nat.le_refl _⟩ hl.1 rfl (Nat.le_of_ble_eq_true rfl) d_M_enrol_9 ?_
    refine lv_if_eq (tgt := 19) hx hb d_M_enrol_12 rfl (fun hc => ?_) (fun hc => ?_)
    · have hf := ite_t hc hf
      exact K19 a1 a2 a3 M _ _ _  hl hP hS hf
    · have hf := ite_f hc hf
      refine lv_iconst (v := 1) hx hb d_M_enrol_15 rfl ?_
      refine lv_goto (tgt := 20) hx hb d_M_enrol_16 rfl ?_
      exact K20 a1 a2 a3 1 M _ _ _  hl hP hS hf
noncomputable def fM_extra_29 (v1 v2 s29_0 : Int32) (M : Mem) : Option (Int32 × Mem) := xgd (vp_in v1 40) (xlt (up2 M 5 v1.toNatClampNeg (vp_nar .boolean v2)) (fun M2 => xgd (s29_0 = 0 ∨ s29_0 = 1) (some (s29_0, M2))))
noncomputable def fM_extra (a1 a2 : Int32) (M : Mem) : Option (Int32 × Mem) := xbd (fM_isCandidate a1) (fun r4 => xbd (fM_goes r4 1 M) (fun r5 => if r5.1 = 0 then (xgd ((0 : Int32) = 0 ∨ (0 : Int32) = 1) (some (0, r5.2))) else (xgd (vp_in a1 40) (if (r5.2 5 a1.toNatClampNeg) = a2 then (fM_extra_29 a1 a2 0 r5.2) else (fM_extra_29 a1 a2 1 r5.2)))))
set_option maxHeartbeats 4000000 in
set_option maxRecDepth 100000 in
theorem tM_extra (l : Launch) (G : va_G) (c3 : ClassId × ClassId × ClassId) (ad : Nat → Nat) (hd : adI SM ad) (M : Mem) (a1 a2 : Int32) (o1 : Int32) (o2 : Mem) (hf : fM_extra a1 a2 M = some (o1, o2)) : WMet l yM_extra cM_extra 4 (some .boolean) (rm0_ 1 22) G kl SM c3 ad M [.ref (ad 0), .int a1, .int a2] (some (.int o1)) o2 := by
  generalize hout : (o1, o2) = out at hf
  obtain rfl : out.1 = o1 := by rw [← hout]
  obtain rfl : out.2 = o2 := by rw [← hout]
  clear hout
  refine WMet.of (by decide +kernel) (Nat.le_of_ble_eq_true rfl) (fun p e s m args below meth c ls F hT hK hP hr hlk hl hS => ?_)
  have hx := F.1
  have hb := F.2.1
  have F : CallFix p m c cM_extra 4 s args gw RM := F
  have hown := F.2.2.2.1
  have hl : lv_has ls 4 [(0, .ref (ad 0)), (1, .int a1), (2, .int a2)] := hl
  revert hP hS
  suffices hall : ∀ (H : Heap) (locs : List Loc), va_P G kl (wd SM c3 ad M) H → va_S (adA SM ad) s.heap H locs → W p l e (rm0_ 1 22) s m args below meth c H locs 0 0 (MQ below (QW G kl SM c3 ad (some (.int out.1)) out.2) args s 0 0 (adA SM ad)) (F0 m 0 ls []) from hall s.heap []
  intro H locs hP hS
  have K29 : ∀ (v1 v2 s29_0 : Int32) (M : Mem) (H : Heap) (locs : List Loc) (ls : Array Slot), lv_has ls 4 [(0, .ref (ad 0)), (1, .int v1), (2, .int v2)] → va_P G kl (wd SM c3 ad M) H → va_S (adA SM ad) s.heap H locs → fM_extra_29 v1 v2 s29_0 M = some out → W p l e (rm0_ 1 22) s m args below meth c H locs 0 0 (MQ below (QW G kl SM c3 ad (some (.int out.1)) out.2) args s 0 0 (adA SM ad)) (F0 m 29 ls [.int s29_0]) := by
    intro v1 v2 s29_0 M H locs ls  hl hP hS hf
    unfold fM_extra_29 at hf
    refine lv_istore_n (lv' := [(3, .int s29_0), (0, .ref (ad 0)), (1, .int v1), (2, .int v2)]) hx hb d_M_extra_29 rfl hl (by decide) rfl (fun ls hl => ?_)
    refine lv_aload_n hx hb d_M_extra_30 rfl (lv_at hl 1 rfl) ?_
    refine xr_getr hx hb hT hown hK hP sM_0 rfl inM 5 (by decide) wf_M_23 rfl d_M_extra_31 ?_
    refine lv_iload_n hx hb d_M_extra_34 rfl (lv_at hl 2 rfl) ?_
    refine lv_iload_n hx hb d_M_extra_35 rfl (lv_at hl 3 rfl) ?_
    obtain ⟨g1, hf⟩ := xgd_some hf
    obtain ⟨M2, hM2, hf⟩ := xlt_some hf
    refine xr_zast hx hb hd hK hP hS sM_5 g1 d_M_extra_36 (fun H locs hP hS => ?_)
    rw [hM2] at hP
    refine lv_iload_n hx hb d_M_extra_37 rfl (lv_at hl 0 rfl) ?_
    obtain ⟨z3, hf⟩ := xgd_some hf
    exact xw_zret hx hb hr hlk hP hS z3 (Option.some.inj hf) d_M_extra_38
  unfold fM_extra at hf
  refine lv_aload_n hx hb d_M_extra_0 rfl (lv_at hl 0 rfl) ?_
  refine lv_iload_n hx hb d_M_extra_1 rfl (lv_at hl 1 rfl) ?_
  obtain ⟨r4, hr4, hf⟩ := xbd_some hf
  refine xc_rs (rest := [.ref (ad 0)]) F hT hK hP (tM_isCandidate l G c3 ad M a1 r4 hr4) wl_M_107 ws_M_isCandidate wn_M wc_M_isCandidate ck_M_isCandidate ⟨rfl, rfl⟩ ⟨by decide, by decide⟩ ⟨Nat.le_refl _, Nat.le_refl _⟩ hl.1 rfl (Nat.le_of_ble_eq_true rfl) d_M_extra_2 ?_
  refine lv_iconst (v := 1) hx hb d_M_extra_5 rfl ?_
  obtain ⟨r5, hr5, hf⟩ := xbd_some hf
  refine xc_wv (rest := []) F hT hK hP hS (fun _ h => h) (tM_goes l G c3 ad hd M r4 1 r5.1 r5.2 hr5) sM_0 rfl wl_M_97 wi_M_goes we_M_goes wn_M wc_M_goes ck_M_goes ⟨rfl, rfl⟩ ⟨by decide, by decide⟩ ⟨Nat.le_refl _, Nat.le_refl _⟩ hl.1 rfl (Nat.le_of_ble_eq_true rfl) d_M_extra_6 (fun H locs hP hS _ => ?_)
  refine lv_if_ne (tgt := 14) hx hb d_M_extra_9 rfl (fun hc => ?_) (fun hc => ?_)
  · have hf := ite_f hc hf
    refine lv_aload_n hx hb d_M_extra_14 rfl (lv_at hl 0 rfl) ?_
    refine xr_getr hx hb hT hown hK hP sM_0 rfl inM 5 (by decide) wf_M_23 rfl d_M_extra_15 ?_
    refine lv_iload_n hx hb d_M_extra_18 rfl (lv_at hl 1 rfl) ?_
    obtain ⟨g6, hf⟩ := xgd_some hf
    refine xr_zald hx hb hK hP sM_5 g6 d_M_extra_19 ?_
    refine lv_iload_n hx hb d_M_extra_20 rfl (lv_at hl 2 rfl) ?_
    refine lv_icmp_eq (tgt := 28) hx hb d_M_extra_21 rfl (fun hc => ?_) (fun hc => ?_)
    · have hf := ite_t hc hf
      refine lv_iconst (v := 0) hx hb d_M_extra_28 rfl ?_
      exact K29 a1 a2 0 r5.2 _ _ _  hl hP hS hf
    · have hf := ite_f hc hf
      refine lv_iconst (v := 1) hx hb d_M_extra_24 rfl ?_
      refine lv_goto (tgt := 29) hx hb d_M_extra_25 rfl ?_
      exact K29 a1 a2 1 r5.2 _ _ _  hl hP hS hf
  · have hf := ite_t hc hf
    refine lv_iconst (v := 0) hx hb d_M_extra_12 rfl ?_
    obtain ⟨z7, hf⟩ := xgd_some hf
    exact xw_zret hx hb hr hlk hP hS z7 (Option.some.inj hf) d_M_extra_13
noncomputable def fM_rule_124 (v7 : Int32) (M : Mem) : Option (Int32 × Mem) := xgd (v7 = 0 ∨ v7 = 1) (some (v7, M))
noncomputable def fM_rule_115 (v7 : Int32) (M : Mem) : Option (Int32 × Mem) := if v7 = 0 then (fM_rule_124 v7 M) else (xbd (fM_forget  M) (fun r2 => fM_rule_124 v7 r2))
noncomputable def fM_rule_81 (v1 v2 v3 v4 v6 s81_0 : Int32) (M : Mem) : Option (Int32 × Mem) := xgd (vp_in v6 243) (xlt (up2 M 6 v6.toNatClampNeg (vp_nar .boolean v4)) (fun M4 => if 2 ≤ v1 then (fM_rule_115 s81_0 M4) else (xgd (vp_in (((81 * v1) + (9 * v3)) + v2) 243) (xlt (up2 M4 6 ((((81 * v1) + (9 * v3)) + v2).toNatClampNeg) (vp_nar .boolean v4)) (fun M6 => fM_rule_115 s81_0 M6)))))
noncomputable def fM_rule_43 (v1 v2 v3 v4 s43_0 s43_1 : Int32) (M : Mem) : Option (Int32 × Mem) := xbd (fM_goes s43_1 s43_0 M) (fun r7 => if r7.1 = 0 then (xgd ((0 : Int32) = 0 ∨ (0 : Int32) = 1) (some (0, r7.2))) else (xlt ((((81 * v1) + (9 * v2)) + v3)) (fun x8 => xgd (vp_in x8 243) (if (r7.2 6 x8.toNatClampNeg) = v4 then (fM_rule_81 v1 v2 v3 v4 x8 0 r7.2) else (fM_rule_81 v1 v2 v3 v4 x8 1 r7.2)))))
noncomputable def fM_rule_28 (v1 v2 v3 v4 s28_0 : Int32) (M : Mem) : Option (Int32 × Mem) := if v2 = v3 then (fM_rule_43 v1 v2 v3 v4 0 s28_0 M) else (fM_rule_43 v1 v2 v3 v4 1 s28_0 M)
noncomputable def fM_rule_27 (v1 v2 v3 v4 : Int32) (M : Mem) : Option (Int32 × Mem) := fM_rule_28 v1 v2 v3 v4 0 M
noncomputable def fM_rule (a1 a2 a3 a4 : Int32) (M : Mem) : Option (Int32 × Mem) := xbd (fM_within a1 0 2) (fun r11 => if r11 = 0 then (fM_rule_27 a1 a2 a3 a4 M) else (xbd (fM_isPaper a2) (fun r12 => if r12 = 0 then (fM_rule_27 a1 a2 a3 a4 M) else (xbd (fM_isPaper a3) (fun r13 => if r13 = 0 then (fM_rule_27 a1 a2 a3 a4 M) else (fM_rule_28 a1 a2 a3 a4 1 M))))))
set_option maxHeartbeats 4000000 in
set_option maxRecDepth 100000 in
theorem tM_rule (l : Launch) (G : va_G) (c3 : ClassId × ClassId × ClassId) (ad : Nat → Nat) (hd : adI SM ad) (M : Mem) (a1 a2 a3 a4 : Int32) (o1 : Int32) (o2 : Mem) (hf : fM_rule a1 a2 a3 a4 M = some (o1, o2)) : WMet l yM_rule cM_rule 8 (some .boolean) (rm0_ 1 22) G kl SM c3 ad M [.ref (ad 0), .int a1, .int a2, .int a3, .int a4] (some (.int o1)) o2 := by
  generalize hout : (o1, o2) = out at hf
  obtain rfl : out.1 = o1 := by rw [← hout]
  obtain rfl : out.2 = o2 := by rw [← hout]
  clear hout
  refine WMet.of (by decide +kernel) (Nat.le_of_ble_eq_true rfl) (fun p e s m args below meth c ls F hT hK hP hr hlk hl hS => ?_)
  have hx := F.1
  have hb := F.2.1
  have F : CallFix p m c cM_rule 8 s args gw RM := F
  have hown := F.2.2.2.1
  have hl : lv_has ls 8 [(0, .ref (ad 0)), (1, .int a1), (2, .int a2), (3, .int a3), (4, .int a4)] := hl
  revert hP hS
  suffices hall : ∀ (H : Heap) (locs : List Loc), va_P G kl (wd SM c3 ad M) H → va_S (adA SM ad) s.heap H locs → W p l e (rm0_ 1 22) s m args below meth c H locs 0 0 (MQ below (QW G kl SM c3 ad (some (.int out.1)) out.2) args s 0 0 (adA SM ad)) (F0 m 0 ls []) from hall s.heap []
  intro H locs hP hS
  have K124 : ∀ (v7 : Int32) (M : Mem) (H : Heap) (locs : List Loc) (ls : Array Slot), lv_has ls 8 [(7, .int v7)] → va_P G kl (wd SM c3 ad M) H → va_S (adA SM ad) s.heap H locs → fM_rule_124 v7 M = some out → W p l e (rm0_ 1 22) s m args below meth c H locs 0 0 (MQ below (QW G kl SM c3 ad (some (.int out.1)) out.2) args s 0 0 (adA SM ad)) (F0 m 124 ls []) := by
    intro v7 M H locs ls  hl hP hS hf
    unfold fM_rule_124 at hf
    refine lv_iload hx hb d_M_rule_124 (lv_at hl 0 rfl) ?_
    obtain ⟨z1, hf⟩ := xgd_some hf
    exact xw_zret hx hb hr hlk hP hS z1 (Option.some.inj hf) d_M_rule_126
  have K115 : ∀ (v7 : Int32) (M : Mem) (H : Heap) (locs : List Loc) (ls : Array Slot), lv_has ls 8 [(0, .ref (ad 0)), (7, .int v7)] → va_P G kl (wd SM c3 ad M) H → va_S (adA SM ad) s.heap H locs → fM_rule_115 v7 M = some out → W p l e (rm0_ 1 22) s m args below meth c H locs 0 0 (MQ below (QW G kl SM c3 ad (some (.int out.1)) out.2) args s 0 0 (adA SM ad)) (F0 m 115 ls []) := by
    intro v7 M H locs ls  hl hP hS hf
    unfold fM_rule_115 at hf
    refine lv_iload hx hb d_M_rule_115 (lv_at hl 1 rfl) ?_
    refine lv_if_eq (tgt := 124) hx hb d_M_rule_117 rfl (fun hc => ?_) (fun hc => ?_)
    · have hf := ite_t hc hf
      exact K124 v7 M _ _ _  (lv_sub hl [1] rfl) hP hS hf
    · have hf := ite_f hc hf
      refine lv_aload_n hx hb d_M_rule_120 rfl (lv_at hl 0 rfl) ?_
      obtain ⟨r2, hr2, hf⟩ := xbd_some hf
      refine xc_wv (rest := []) F hT hK hP hS (fun _ h => h) (tM_forget l G c3 ad hd M  r2 hr2) sM_0 rfl wl_M_101 wi_M_forget we_M_forget wn_M wc_M_forget ck_M_forget ⟨rfl, rfl⟩ ⟨by decide, by decide⟩ ⟨Nat.le_refl _, Nat.le_refl _⟩ hl.1 rfl (Nat.le_of_ble_eq_true rfl) d_M_rule_121 (fun H locs hP hS _ => ?_)
      exact K124 v7 r2 _ _ _  (lv_sub hl [1] rfl) hP hS hf
  have K81 : ∀ (v1 v2 v3 v4 v6 s81_0 : Int32) (M : Mem) (H : Heap) (locs : List Loc) (ls : Array Slot), lv_has ls 8 [(0, .ref (ad 0)), (1, .int v1), (2, .int v2), (3, .int v3), (4, .int v4), (6, .int v6)] → va_P G kl (wd SM c3 ad M) H → va_S (adA SM ad) s.heap H locs → fM_rule_81 v1 v2 v3 v4 v6 s81_0 M = some out → W p l e (rm0_ 1 22) s m args below meth c H locs 0 0 (MQ below (QW G kl SM c3 ad (some (.int out.1)) out.2) args s 0 0 (adA SM ad)) (F0 m 81 ls [.int s81_0]) := by
    intro v1 v2 v3 v4 v6 s81_0 M H locs ls  hl hP hS hf
    unfold fM_rule_81 at hf
    refine lv_istore (lv' := [(7, .int s81_0), (0, .ref (ad 0)), (1, .int v1), (2, .int v2), (3, .int v3), (4, .int v4), (6, .int v6)]) hx hb d_M_rule_81 hl (by decide) rfl (fun ls hl => ?_)
    refine lv_aload_n hx hb d_M_rule_83 rfl (lv_at hl 1 rfl) ?_
    refine xr_getr hx hb hT hown hK hP sM_0 rfl inM 6 (by decide) wf_M_26 rfl d_M_rule_84 ?_
    refine lv_iload hx hb d_M_rule_87 (lv_at hl 6 rfl) ?_
    refine lv_iload hx hb d_M_rule_89 (lv_at hl 5 rfl) ?_
    obtain ⟨g3, hf⟩ := xgd_some hf
    obtain ⟨M4, hM4, hf⟩ := xlt_some hf
    refine xr_zast hx hb hd hK hP hS sM_6 g3 d_M_rule_91 (fun H locs hP hS => ?_)
    rw [hM4] at hP
    refine lv_iload_n hx hb d_M_rule_92 rfl (lv_at hl 2 rfl) ?_
    refine lv_iconst (v := 2) hx hb d_M_rule_93 rfl ?_
    refine lv_icmp_ge (tgt := 115) hx hb d_M_rule_94 rfl (fun hc => ?_) (fun hc => ?_)
    · have hf := ite_t hc hf
      exact K115 s81_0 M4 _ _ _  (lv_sub hl [1, 0] rfl) hP hS hf
    · have hf := ite_f hc hf
      refine lv_aload_n hx hb d_M_rule_97 rfl (lv_at hl 1 rfl) ?_
      refine xr_getr hx hb hT hown hK hP sM_0 rfl inM 6 (by decide) wf_M_26 rfl d_M_rule_98 ?_
      refine lv_bipush (v := 81) hx hb d_M_rule_101 rfl ?_
      refine lv_iload_n hx hb d_M_rule_103 rfl (lv_at hl 2 rfl) ?_
      refine lv_imul hx hb d_M_rule_104 ?_
      refine lv_bipush (v := 9) hx hb d_M_rule_105 rfl ?_
      refine lv_iload_n hx hb d_M_rule_107 rfl (lv_at hl 4 rfl) ?_
      refine lv_imul hx hb d_M_rule_108 ?_
      refine lv_iadd hx hb d_M_rule_109 ?_
      refine lv_iload_n hx hb d_M_rule_110 rfl (lv_at hl 3 rfl) ?_
      refine lv_iadd hx hb d_M_rule_111 ?_
      refine lv_iload hx hb d_M_rule_112 (lv_at hl 5 rfl) ?_
      obtain ⟨g5, hf⟩ := xgd_some hf
      obtain ⟨M6, hM6, hf⟩ := xlt_some hf
      refine xr_zast hx hb hd hK hP hS sM_6 g5 d_M_rule_114 (fun H locs hP hS => ?_)
      rw [hM6] at hP
      exact K115 s81_0 M6 _ _ _  (lv_sub hl [1, 0] rfl) hP hS hf
  have K43 : ∀ (v1 v2 v3 v4 s43_0 s43_1 : Int32) (M : Mem) (H : Heap) (locs : List Loc) (ls : Array Slot), lv_has ls 8 [(0, .ref (ad 0)), (1, .int v1), (2, .int v2), (3, .int v3), (4, .int v4)] → va_P G kl (wd SM c3 ad M) H → va_S (adA SM ad) s.heap H locs → fM_rule_43 v1 v2 v3 v4 s43_0 s43_1 M = some out → W p l e (rm0_ 1 22) s m args below meth c H locs 0 0 (MQ below (QW G kl SM c3 ad (some (.int out.1)) out.2) args s 0 0 (adA SM ad)) (F0 m 43 ls [.int s43_0, .int s43_1, .ref (ad 0)]) := by
    intro v1 v2 v3 v4 s43_0 s43_1 M H locs ls  hl hP hS hf
    unfold fM_rule_43 at hf
    obtain ⟨r7, hr7, hf⟩ := xbd_some hf
    refine xc_wv (rest := []) F hT hK hP hS (fun _ h => h) (tM_goes l G c3 ad hd M s43_1 s43_0 r7.1 r7.2 hr7) sM_0 rfl wl_M_97 wi_M_goes we_M_goes wn_M wc_M_goes ck_M_goes ⟨rfl, rfl⟩ ⟨by decide, by decide⟩ ⟨Nat.le_refl _, Nat.le_refl _⟩ hl.1 rfl (Nat.le_of_ble_eq_true rfl) d_M_rule_43 (fun H locs hP hS _ => ?_)
    refine lv_if_ne (tgt := 51) hx hb d_M_rule_46 rfl (fun hc => ?_) (fun hc => ?_)
    · have hf := ite_f hc hf
      refine lv_bipush (v := 81) hx hb d_M_rule_51 rfl ?_
      refine lv_iload_n hx hb d_M_rule_53 rfl (lv_at hl 1 rfl) ?_
      refine lv_imul hx hb d_M_rule_54 ?_
      refine lv_bipush (v := 9) hx hb d_M_rule_55 rfl ?_
      refine lv_iload_n hx hb d_M_rule_57 rfl (lv_at hl 2 rfl) ?_
      refine lv_imul hx hb d_M_rule_58 ?_
      refine lv_iadd hx hb d_M_rule_59 ?_
      refine lv_iload_n hx hb d_M_rule_60 rfl (lv_at hl 3 rfl) ?_
      refine lv_iadd hx hb d_M_rule_61 ?_
      obtain ⟨x8, hx8, hf⟩ := xlt_some hf
      refine xr_name hx8 ?_
      refine lv_istore (lv' := [(6, .int x8), (0, .ref (ad 0)), (1, .int v1), (2, .int v2), (3, .int v3), (4, .int v4)]) hx hb d_M_rule_62 hl (by decide) rfl (fun ls hl => ?_)
      refine lv_aload_n hx hb d_M_rule_64 rfl (lv_at hl 1 rfl) ?_
      refine xr_getr hx hb hT hown hK hP sM_0 rfl inM 6 (by decide) wf_M_26 rfl d_M_rule_65 ?_
      refine lv_iload hx hb d_M_rule_68 (lv_at hl 0 rfl) ?_
      obtain ⟨g9, hf⟩ := xgd_some hf
      refine xr_zald hx hb hK hP sM_6 g9 d_M_rule_70 ?_
      refine lv_iload hx hb d_M_rule_71 (lv_at hl 5 rfl) ?_
      refine lv_icmp_eq (tgt := 80) hx hb d_M_rule_73 rfl (fun hc => ?_) (fun hc => ?_)
      · have hf := ite_t hc hf
        refine lv_iconst (v := 0) hx hb d_M_rule_80 rfl ?_
        exact K81 v1 v2 v3 v4 x8 0 r7.2 _ _ _  (lv_sub hl [1, 2, 3, 4, 5, 0] rfl) hP hS hf
      · have hf := ite_f hc hf
        refine lv_iconst (v := 1) hx hb d_M_rule_76 rfl ?_
        refine lv_goto (tgt := 81) hx hb d_M_rule_77 rfl ?_
        exact K81 v1 v2 v3 v4 x8 1 r7.2 _ _ _  (lv_sub hl [1, 2, 3, 4, 5, 0] rfl) hP hS hf
    · have hf := ite_t hc hf
      refine lv_iconst (v := 0) hx hb d_M_rule_49 rfl ?_
      obtain ⟨z10, hf⟩ := xgd_some hf
      exact xw_zret hx hb hr hlk hP hS z10 (Option.some.inj hf) d_M_rule_50
  have K28 : ∀ (v1 v2 v3 v4 s28_0 : Int32) (M : Mem) (H : Heap) (locs : List Loc) (ls : Array Slot), lv_has ls 8 [(0, .ref (ad 0)), (1, .int v1), (2, .int v2), (3, .int v3), (4, .int v4)] → va_P G kl (wd SM c3 ad M) H → va_S (adA SM ad) s.heap H locs → fM_rule_28 v1 v2 v3 v4 s28_0 M = some out → W p l e (rm0_ 1 22) s m args below meth c H locs 0 0 (MQ below (QW G kl SM c3 ad (some (.int out.1)) out.2) args s 0 0 (adA SM ad)) (F0 m 28 ls [.int s28_0]) := by
    intro v1 v2 v3 v4 s28_0 M H locs ls  hl hP hS hf
    unfold fM_rule_28 at hf
    refine lv_istore (lv' := [(5, .int s28_0), (0, .ref (ad 0)), (1, .int v1), (2, .int v2), (3, .int v3), (4, .int v4)]) hx hb d_M_rule_28 hl (by decide) rfl (fun ls hl => ?_)
    refine lv_aload_n hx hb d_M_rule_30 rfl (lv_at hl 1 rfl) ?_
    refine lv_iload hx hb d_M_rule_31 (lv_at hl 0 rfl) ?_
    refine lv_iload_n hx hb d_M_rule_33 rfl (lv_at hl 3 rfl) ?_
    refine lv_iload_n hx hb d_M_rule_34 rfl (lv_at hl 4 rfl) ?_
    refine lv_icmp_eq (tgt := 42) hx hb d_M_rule_35 rfl (fun hc => ?_) (fun hc => ?_)
    · have hf := ite_t hc hf
      refine lv_iconst (v := 0) hx hb d_M_rule_42 rfl ?_
      exact K43 v1 v2 v3 v4 0 s28_0 M _ _ _  (lv_sub hl [1, 2, 3, 4, 5] rfl) hP hS hf
    · have hf := ite_f hc hf
      refine lv_iconst (v := 1) hx hb d_M_rule_38 rfl ?_
      refine lv_goto (tgt := 43) hx hb d_M_rule_39 rfl ?_
      exact K43 v1 v2 v3 v4 1 s28_0 M _ _ _  (lv_sub hl [1, 2, 3, 4, 5] rfl) hP hS hf
  have K27 : ∀ (v1 v2 v3 v4 : Int32) (M : Mem) (H : Heap) (locs : List Loc) (ls : Array Slot), lv_has ls 8 [(0, .ref (ad 0)), (1, .int v1), (2, .int v2), (3, .int v3), (4, .int v4)] → va_P G kl (wd SM c3 ad M) H → va_S (adA SM ad) s.heap H locs → fM_rule_27 v1 v2 v3 v4 M = some out → W p l e (rm0_ 1 22) s m args below meth c H locs 0 0 (MQ below (QW G kl SM c3 ad (some (.int out.1)) out.2) args s 0 0 (adA SM ad)) (F0 m 27 ls []) := by
    intro v1 v2 v3 v4 M H locs ls  hl hP hS hf
    unfold fM_rule_27 at hf
    refine lv_iconst (v := 0) hx hb d_M_rule_27 rfl ?_
    exact K28 v1 v2 v3 v4 0 M _ _ _  hl hP hS hf
  unfold fM_rule at hf
  refine lv_iload_n hx hb d_M_rule_0 rfl (lv_at hl 1 rfl) ?_
  refine lv_iconst (v := 0) hx hb d_M_rule_1 rfl ?_
  refine lv_iconst (v := 2) hx hb d_M_rule_2 rfl ?_
  obtain ⟨r11, hr11, hf⟩ := xbd_some hf
  refine xc_rs (rest := []) F hT hK hP (tM_within l G c3 ad M a1 0 2 r11 hr11) wl_M_93 ws_M_within wn_M wc_M_within ck_M_within ⟨rfl, rfl⟩ ⟨by decide, by decide⟩ ⟨Nat.le_refl _, Nat.le_refl _⟩ hl.1 rfl (Nat.le_of_ble_eq_true rfl) d_M_rule_3 ?_
  refine lv_if_eq (tgt := 27) hx hb d_M_rule_6 rfl (fun hc => ?_) (fun hc => ?_)
  · have hf := ite_t hc hf
    exact K27 a1 a2 a3 a4 M _ _ _  hl hP hS hf
  · have hf := ite_f hc hf
    refine lv_iload_n hx hb d_M_rule_9 rfl (lv_at hl 2 rfl) ?_
    obtain ⟨r12, hr12, hf⟩ := xbd_some hf
    refine xc_rs (rest := []) F hT hK hP (tM_isPaper l G c3 ad M a2 r12 hr12) wl_M_89 ws_M_isPaper wn_M wc_M_isPaper ck_M_isPaper ⟨rfl, rfl⟩ ⟨by decide, by decide⟩ ⟨Nat.le_refl _, Nat.le_refl _⟩ hl.1 rfl (Nat.le_of_ble_eq_true rfl) d_M_rule_10 ?_
    refine lv_if_eq (tgt := 27) hx hb d_M_rule_13 rfl (fun hc => ?_) (fun hc => ?_)
    · have hf := ite_t hc hf
      exact K27 a1 a2 a3 a4 M _ _ _  hl hP hS hf
    · have hf := ite_f hc hf
      refine lv_iload_n hx hb d_M_rule_16 rfl (lv_at hl 3 rfl) ?_
      obtain ⟨r13, hr13, hf⟩ := xbd_some hf
      refine xc_rs (rest := []) F hT hK hP (tM_isPaper l G c3 ad M a3 r13 hr13) wl_M_89 ws_M_isPaper wn_M wc_M_isPaper ck_M_isPaper ⟨rfl, rfl⟩ ⟨by decide, by decide⟩ ⟨Nat.le_refl _, Nat.le_refl _⟩ hl.1 rfl (Nat.le_of_ble_eq_true rfl) d_M_rule_17 ?_
      refine lv_if_eq (tgt := 27) hx hb d_M_rule_20 rfl (fun hc => ?_) (fun hc => ?_)
      · have hf := ite_t hc hf
        exact K27 a1 a2 a3 a4 M _ _ _  hl hP hS hf
      · have hf := ite_f hc hf
        refine lv_iconst (v := 1) hx hb d_M_rule_23 rfl ?_
        refine lv_goto (tgt := 28) hx hb d_M_rule_24 rfl ?_
        exact K28 a1 a2 a3 a4 1 M _ _ _  hl hP hS hf
noncomputable def fM_fix_25 (v1 v2 s25_0 : Int32) (M : Mem) : Option (Int32 × Mem) := xbd (fM_goes s25_0 1 M) (fun r1 => if r1.1 = 0 then (some (0, r1.2)) else (xgd (vp_in v1 9) (xlt ((r1.2 3 v1.toNatClampNeg)) (fun x3 => xgd (vp_in v1 9) (xlt (up2 r1.2 3 v1.toNatClampNeg v2) (fun M5 => xbd (fM_forget  M5) (fun r6 => some (x3, r6))))))))
noncomputable def fM_fix_24 (v1 v2 : Int32) (M : Mem) : Option (Int32 × Mem) := fM_fix_25 v1 v2 0 M
noncomputable def fM_fix_20 (v1 v2 : Int32) (M : Mem) : Option (Int32 × Mem) := fM_fix_25 v1 v2 1 M
noncomputable def fM_fix (a1 a2 : Int32) (M : Mem) : Option (Int32 × Mem) := xbd (fM_isPaper a1) (fun r7 => if r7 = 0 then (fM_fix_24 a1 a2 M) else (if a2 = (-1) then (fM_fix_20 a1 a2 M) else (xbd (fM_isSession a2) (fun r8 => if r8 = 0 then (fM_fix_24 a1 a2 M) else (fM_fix_20 a1 a2 M)))))
set_option maxHeartbeats 4000000 in
set_option maxRecDepth 100000 in
theorem tM_fix (l : Launch) (G : va_G) (c3 : ClassId × ClassId × ClassId) (ad : Nat → Nat) (hd : adI SM ad) (M : Mem) (a1 a2 : Int32) (o1 : Int32) (o2 : Mem) (hf : fM_fix a1 a2 M = some (o1, o2)) : WMet l yM_fix cM_fix 4 (some .int) (rm0_ 1 22) G kl SM c3 ad M [.ref (ad 0), .int a1, .int a2] (some (.int o1)) o2 := by
  generalize hout : (o1, o2) = out at hf
  obtain rfl : out.1 = o1 := by rw [← hout]
  obtain rfl : out.2 = o2 := by rw [← hout]
  clear hout
  refine WMet.of (by decide +kernel) (Nat.le_of_ble_eq_true rfl) (fun p e s m args below meth c ls F hT hK hP hr hlk hl hS => ?_)
  have hx := F.1
  have hb := F.2.1
  have F : CallFix p m c cM_fix 4 s args gw RM := F
  have hown := F.2.2.2.1
  have hl : lv_has ls 4 [(0, .ref (ad 0)), (1, .int a1), (2, .int a2)] := hl
  revert hP hS
  suffices hall : ∀ (H : Heap) (locs : List Loc), va_P G kl (wd SM c3 ad M) H → va_S (adA SM ad) s.heap H locs → W p l e (rm0_ 1 22) s m args below meth c H locs 0 0 (MQ below (QW G kl SM c3 ad (some (.int out.1)) out.2) args s 0 0 (adA SM ad)) (F0 m 0 ls []) from hall s.heap []
  intro H locs hP hS
  have K25 : ∀ (v1 v2 s25_0 : Int32) (M : Mem) (H : Heap) (locs : List Loc) (ls : Array Slot), lv_has ls 4 [(0, .ref (ad 0)), (1, .int v1), (2, .int v2)] → va_P G kl (wd SM c3 ad M) H → va_S (adA SM ad) s.heap H locs → fM_fix_25 v1 v2 s25_0 M = some out → W p l e (rm0_ 1 22) s m args below meth c H locs 0 0 (MQ below (QW G kl SM c3 ad (some (.int out.1)) out.2) args s 0 0 (adA SM ad)) (F0 m 25 ls [.int s25_0, .ref (ad 0)]) := by
    intro v1 v2 s25_0 M H locs ls  hl hP hS hf
    unfold fM_fix_25 at hf
    refine lv_iconst (v := 1) hx hb d_M_fix_25 rfl ?_
    obtain ⟨r1, hr1, hf⟩ := xbd_some hf
    refine xc_wv (rest := []) F hT hK hP hS (fun _ h => h) (tM_goes l G c3 ad hd M s25_0 1 r1.1 r1.2 hr1) sM_0 rfl wl_M_97 wi_M_goes we_M_goes wn_M wc_M_goes ck_M_goes ⟨rfl, rfl⟩ ⟨by decide, by decide⟩ ⟨Nat.le_refl _, Nat.le_refl _⟩ hl.1 rfl (Nat.le_of_ble_eq_true rfl) d_M_fix_26 (fun H locs hP hS _ => ?_)
    refine lv_if_ne (tgt := 34) hx hb d_M_fix_29 rfl (fun hc => ?_) (fun hc => ?_)
    · have hf := ite_f hc hf
      refine lv_aload_n hx hb d_M_fix_34 rfl (lv_at hl 0 rfl) ?_
      refine xr_getr hx hb hT hown hK hP sM_0 rfl inM 3 (by decide) wf_M_16 rfl d_M_fix_35 ?_
      refine lv_iload_n hx hb d_M_fix_38 rfl (lv_at hl 1 rfl) ?_
      obtain ⟨g2, hf⟩ := xgd_some hf
      refine xr_iald hx hb hK hP sM_3 g2 d_M_fix_39 ?_
      obtain ⟨x3, hx3, hf⟩ := xlt_some hf
      refine xr_name hx3 ?_
      refine lv_istore_n (lv' := [(3, .int x3), (0, .ref (ad 0)), (1, .int v1), (2, .int v2)]) hx hb d_M_fix_40 rfl hl (by decide) rfl (fun ls hl => ?_)
      refine lv_aload_n hx hb d_M_fix_41 rfl (lv_at hl 1 rfl) ?_
      refine xr_getr hx hb hT hown hK hP sM_0 rfl inM 3 (by decide) wf_M_16 rfl d_M_fix_42 ?_
      refine lv_iload_n hx hb d_M_fix_45 rfl (lv_at hl 2 rfl) ?_
      refine lv_iload_n hx hb d_M_fix_46 rfl (lv_at hl 3 rfl) ?_
      obtain ⟨g4, hf⟩ := xgd_some hf
      obtain ⟨M5, hM5, hf⟩ := xlt_some hf
      refine xr_iast hx hb hd hK hP hS sM_3 g4 d_M_fix_47 (fun H locs hP hS => ?_)
      rw [hM5] at hP
      refine lv_aload_n hx hb d_M_fix_48 rfl (lv_at hl 1 rfl) ?_
      obtain ⟨r6, hr6, hf⟩ := xbd_some hf
      refine xc_wv (rest := []) F hT hK hP hS (fun _ h => h) (tM_forget l G c3 ad hd M5  r6 hr6) sM_0 rfl wl_M_101 wi_M_forget we_M_forget wn_M wc_M_forget ck_M_forget ⟨rfl, rfl⟩ ⟨by decide, by decide⟩ ⟨Nat.le_refl _, Nat.le_refl _⟩ hl.1 rfl (Nat.le_of_ble_eq_true rfl) d_M_fix_49 (fun H locs hP hS _ => ?_)
      refine lv_iload_n hx hb d_M_fix_52 rfl (lv_at hl 0 rfl) ?_
      exact xw_iret hx hb hr hlk hP hS (Option.some.inj hf) d_M_fix_53
    · have hf := ite_t hc hf
      refine lv_iconst (v := 0) hx hb d_M_fix_32 rfl ?_
      exact xw_iret hx hb hr hlk hP hS (Option.some.inj hf) d_M_fix_33
  have K24 : ∀ (v1 v2 : Int32) (M : Mem) (H : Heap) (locs : List Loc) (ls : Array Slot), lv_has ls 4 [(0, .ref (ad 0)), (1, .int v1), (2, .int v2)] → va_P G kl (wd SM c3 ad M) H → va_S (adA SM ad) s.heap H locs → fM_fix_24 v1 v2 M = some out → W p l e (rm0_ 1 22) s m args below meth c H locs 0 0 (MQ below (QW G kl SM c3 ad (some (.int out.1)) out.2) args s 0 0 (adA SM ad)) (F0 m 24 ls [.ref (ad 0)]) := by
    intro v1 v2 M H locs ls  hl hP hS hf
    unfold fM_fix_24 at hf
    refine lv_iconst (v := 0) hx hb d_M_fix_24 rfl ?_
    exact K25 v1 v2 0 M _ _ _  hl hP hS hf
  have K20 : ∀ (v1 v2 : Int32) (M : Mem) (H : Heap) (locs : List Loc) (ls : Array Slot), lv_has ls 4 [(0, .ref (ad 0)), (1, .int v1), (2, .int v2)] → va_P G kl (wd SM c3 ad M) H → va_S (adA SM ad) s.heap H locs → fM_fix_20 v1 v2 M = some out → W p l e (rm0_ 1 22) s m args below meth c H locs 0 0 (MQ below (QW G kl SM c3 ad (some (.int out.1)) out.2) args s 0 0 (adA SM ad)) (F0 m 20 ls [.ref (ad 0)]) := by
    intro v1 v2 M H locs ls  hl hP hS hf
    unfold fM_fix_20 at hf
    refine lv_iconst (v := 1) hx hb d_M_fix_20 rfl ?_
    refine lv_goto (tgt := 25) hx hb d_M_fix_21 rfl ?_
    exact K25 v1 v2 1 M _ _ _  hl hP hS hf
  unfold fM_fix at hf
  refine lv_aload_n hx hb d_M_fix_0 rfl (lv_at hl 0 rfl) ?_
  refine lv_iload_n hx hb d_M_fix_1 rfl (lv_at hl 1 rfl) ?_
  obtain ⟨r7, hr7, hf⟩ := xbd_some hf
  refine xc_rs (rest := [.ref (ad 0)]) F hT hK hP (tM_isPaper l G c3 ad M a1 r7 hr7) wl_M_89 ws_M_isPaper wn_M wc_M_isPaper ck_M_isPaper ⟨rfl, rfl⟩ ⟨by decide, by decide⟩ ⟨Nat.le_refl _, Nat.le_refl _⟩ hl.1 rfl (Nat.le_of_ble_eq_true rfl) d_M_fix_2 ?_
  refine lv_if_eq (tgt := 24) hx hb d_M_fix_5 rfl (fun hc => ?_) (fun hc => ?_)
  · have hf := ite_t hc hf
    exact K24 a1 a2 M _ _ _  hl hP hS hf
  · have hf := ite_f hc hf
    refine lv_iload_n hx hb d_M_fix_8 rfl (lv_at hl 2 rfl) ?_
    refine lv_iconst (v := (-1)) hx hb d_M_fix_9 rfl ?_
    refine lv_icmp_eq (tgt := 20) hx hb d_M_fix_10 rfl (fun hc => ?_) (fun hc => ?_)
    · have hf := ite_t hc hf
      exact K20 a1 a2 M _ _ _  hl hP hS hf
    · have hf := ite_f hc hf
      refine lv_iload_n hx hb d_M_fix_13 rfl (lv_at hl 2 rfl) ?_
      obtain ⟨r8, hr8, hf⟩ := xbd_some hf
      refine xc_rs (rest := [.ref (ad 0)]) F hT hK hP (tM_isSession l G c3 ad M a2 r8 hr8) wl_M_104 ws_M_isSession wn_M wc_M_isSession ck_M_isSession ⟨rfl, rfl⟩ ⟨by decide, by decide⟩ ⟨Nat.le_refl _, Nat.le_refl _⟩ hl.1 rfl (Nat.le_of_ble_eq_true rfl) d_M_fix_14 ?_
      refine lv_if_eq (tgt := 24) hx hb d_M_fix_17 rfl (fun hc => ?_) (fun hc => ?_)
      · have hf := ite_t hc hf
        exact K24 a1 a2 M _ _ _  hl hP hS hf
      · have hf := ite_f hc hf
        exact K20 a1 a2 M _ _ _  hl hP hS hf
noncomputable def fM_common_56 (v3 : Int32) (M : Mem) : Option (Int32) := some v3
noncomputable def fM_common_49 (v1 v2 v4 s49_0 : Int32) (M : Mem) : Option ((Int32 × Int32) ⊕ (Int32 × Int32)) := xlt (v4 + 1) (fun x1 => some (.inr (s49_0, x1)))
noncomputable def fM_common_48 (v1 v2 v3 v4 : Int32) (M : Mem) : Option ((Int32 × Int32) ⊕ (Int32 × Int32)) := fM_common_49 v1 v2 v4 v3 M
noncomputable def gM_common_5 (v1 v2 : Int32) (M : Mem) (v3 v4 : Int32) : Option ((Int32 × Int32) ⊕ (Int32 × Int32)) := if 40 ≤ v4 then (some (.inl (v3, v4))) else (xlt (((9 * v4) + v1)) (fun x2 => xgd (vp_in x2 360) (if (M 4 x2.toNatClampNeg) = 0 then (fM_common_48 v1 v2 v3 v4 M) else (xlt (((9 * v4) + v2)) (fun x4 => xgd (vp_in x4 360) (if (M 4 x4.toNatClampNeg) = 0 then (fM_common_48 v1 v2 v3 v4 M) else (fM_common_49 v1 v2 v4 (v3 + 1) M)))))))
noncomputable def bM_common_5 (v1 v2 : Int32) (M : Mem) : Int32 × Int32 → Option ((Int32 × Int32) ⊕ (Int32 × Int32)) := fun st => gM_common_5 v1 v2 M st.1 st.2
noncomputable def fM_common (a1 a2 : Int32) (M : Mem) : Option (Int32) := xbd (xlp (bM_common_5 a1 a2 M) (0, 0)) (fun e5 => fM_common_56 e5.1 M)
set_option maxHeartbeats 4000000 in
set_option maxRecDepth 100000 in
theorem tM_common (l : Launch) (G : va_G) (c3 : ClassId × ClassId × ClassId) (ad : Nat → Nat) (M : Mem) (a1 a2 : Int32) (out : Int32) (hf : fM_common a1 a2 M = some out) : RMet l yM_common cM_common 5 (some .int) (rm0_ 0 0) G kl SM c3 ad M [.ref (ad 0), .int a1, .int a2] out := by
  refine RMet.of (by decide +kernel) (Nat.le_of_ble_eq_true rfl) (fun p e s m args below meth c ls F hT hK hP hr hlk hl => ?_)
  have hx := F.1
  have hb := F.2.1
  have F : CallFix p m c cM_common 5 s args gw RM := F
  have hown := F.2.2.2.1
  have hl : lv_has ls 5 [(0, .ref (ad 0)), (1, .int a1), (2, .int a2)] := hl
  have K56 : ∀ (v3 : Int32) (ls : Array Slot), lv_has ls 5 [(3, .int v3)] → fM_common_56 v3 M = some out → W p l e (rm0_ 0 0) s m args below meth c s.heap [] 0 0 (MQ below (QcRead out) args s 0 0 (fun _ => False)) (F0 m 56 ls []) := by
    intro v3 ls  hl hf
    unfold fM_common_56 at hf
    refine lv_iload_n hx hb d_M_common_56 rfl (lv_at hl 0 rfl) ?_
    exact xr_iret hx hb hr hlk (Option.some.inj hf) d_M_common_57
  unfold fM_common at hf
  refine lv_iconst (v := 0) hx hb d_M_common_0 rfl ?_
  refine lv_istore_n (lv' := [(3, .int 0), (0, .ref (ad 0)), (1, .int a1), (2, .int a2)]) hx hb d_M_common_1 rfl hl (by decide) rfl (fun ls hl => ?_)
  refine lv_iconst (v := 0) hx hb d_M_common_2 rfl ?_
  refine lv_istore (lv' := [(4, .int 0), (3, .int 0), (0, .ref (ad 0)), (1, .int a1), (2, .int a2)]) hx hb d_M_common_3 hl (by decide) rfl (fun ls hl => ?_)
  obtain ⟨e5, he5, hk5⟩ := xbd_some hf
  obtain ⟨n5, hq5⟩ := xlp_n he5
  have LH5 : ∀ (n : Nat) (v3 v4 : Int32) (ls : Array Slot), lv_has ls 5 [(0, .ref (ad 0)), (1, .int a1), (2, .int a2), (3, .int v3), (4, .int v4)] → xwh (bM_common_5 a1 a2 M) n (v3, v4) = some e5 → W p l e (rm0_ 0 0) s m args below meth c s.heap [] 0 0 (MQ below (QcRead out) args s 0 0 (fun _ => False)) (F0 m 5 ls []) := by
    intro n
    induction n with
    | zero =>
      intro v3 v4 ls hl hn
      exact xwh_0 hn
    | succ n ih5 =>
      intro v3 v4 ls hl hn5
      obtain ⟨o5, hf, hn5⟩ := xwh_s hn5
      have hf : gM_common_5 a1 a2 M v3 v4 = some o5 := hf
      have K49 : ∀ (v4 s49_0 : Int32) (ls : Array Slot), lv_has ls 5 [(0, .ref (ad 0)), (1, .int a1), (2, .int a2), (4, .int v4)] → fM_common_49 a1 a2 v4 s49_0 M = some o5 → W p l e (rm0_ 0 0) s m args below meth c s.heap [] 0 0 (MQ below (QcRead out) args s 0 0 (fun _ => False)) (F0 m 49 ls [.int s49_0]) := by
        intro v4 s49_0 ls  hl hf
        unfold fM_common_49 at hf
        refine lv_istore_n (lv' := [(3, .int s49_0), (0, .ref (ad 0)), (1, .int a1), (2, .int a2), (4, .int v4)]) hx hb d_M_common_49 rfl hl (by decide) rfl (fun ls hl => ?_)
        obtain ⟨x1, hx1, hf⟩ := xlt_some hf
        refine lv_iinc (k := 4) (lv' := [(4, .int x1), (3, .int s49_0), (0, .ref (ad 0)), (1, .int a1), (2, .int a2)]) hx hb d_M_common_50 hl rfl hx1 (by decide) rfl (fun ls hl => ?_)
        refine lv_goto (tgt := 5) hx hb d_M_common_53 rfl ?_
        exact ih5 s49_0 x1 _ (lv_sub hl [2, 3, 4, 1, 0] rfl) (xw_again hf hn5)
      have K48 : ∀ (v3 v4 : Int32) (ls : Array Slot), lv_has ls 5 [(0, .ref (ad 0)), (1, .int a1), (2, .int a2), (3, .int v3), (4, .int v4)] → fM_common_48 a1 a2 v3 v4 M = some o5 → W p l e (rm0_ 0 0) s m args below meth c s.heap [] 0 0 (MQ below (QcRead out) args s 0 0 (fun _ => False)) (F0 m 48 ls []) := by
        intro v3 v4 ls  hl hf
        unfold fM_common_48 at hf
        refine lv_iload_n hx hb d_M_common_48 rfl (lv_at hl 3 rfl) ?_
        exact K49 v4 v3 _  (lv_sub hl [0, 1, 2, 4] rfl) hf
      unfold gM_common_5 at hf
      refine lv_iload hx hb d_M_common_5 (lv_at hl 4 rfl) ?_
      refine lv_bipush (v := 40) hx hb d_M_common_7 rfl ?_
      refine lv_icmp_ge (tgt := 56) hx hb d_M_common_9 rfl (fun hc => ?_) (fun hc => ?_)
      · have hf := ite_t hc hf
        have he := xw_exit hf hn5
        subst he
        have hf := hk5
        exact K56 v3 _  (lv_sub hl [3] rfl) hf
      · have hf := ite_f hc hf
        refine lv_aload_n hx hb d_M_common_12 rfl (lv_at hl 0 rfl) ?_
        refine xr_getr hx hb hT hown hK hP sM_0 rfl inM 4 (by decide) wf_M_19 rfl d_M_common_13 ?_
        refine lv_bipush (v := 9) hx hb d_M_common_16 rfl ?_
        refine lv_iload hx hb d_M_common_18 (lv_at hl 4 rfl) ?_
        refine lv_imul hx hb d_M_common_20 ?_
        refine lv_iload_n hx hb d_M_common_21 rfl (lv_at hl 1 rfl) ?_
        refine lv_iadd hx hb d_M_common_22 ?_
        obtain ⟨x2, hx2, hf⟩ := xlt_some hf
        refine xr_name hx2 ?_
        obtain ⟨g3, hf⟩ := xgd_some hf
        refine xr_zald hx hb hK hP sM_4 g3 d_M_common_23 ?_
        refine lv_if_eq (tgt := 48) hx hb d_M_common_24 rfl (fun hc => ?_) (fun hc => ?_)
        · have hf := ite_t hc hf
          exact K48 v3 v4 _  hl hf
        · have hf := ite_f hc hf
          refine lv_aload_n hx hb d_M_common_27 rfl (lv_at hl 0 rfl) ?_
          refine xr_getr hx hb hT hown hK hP sM_0 rfl inM 4 (by decide) wf_M_19 rfl d_M_common_28 ?_
          refine lv_bipush (v := 9) hx hb d_M_common_31 rfl ?_
          refine lv_iload hx hb d_M_common_33 (lv_at hl 4 rfl) ?_
          refine lv_imul hx hb d_M_common_35 ?_
          refine lv_iload_n hx hb d_M_common_36 rfl (lv_at hl 2 rfl) ?_
          refine lv_iadd hx hb d_M_common_37 ?_
          obtain ⟨x4, hx4, hf⟩ := xlt_some hf
          refine xr_name hx4 ?_
          obtain ⟨g5, hf⟩ := xgd_some hf
          refine xr_zald hx hb hK hP sM_4 g5 d_M_common_38 ?_
          refine lv_if_eq (tgt := 48) hx hb d_M_common_39 rfl (fun hc => ?_) (fun hc => ?_)
          · have hf := ite_t hc hf
            exact K48 v3 v4 _  hl hf
          · have hf := ite_f hc hf
            refine lv_iload_n hx hb d_M_common_42 rfl (lv_at hl 3 rfl) ?_
            refine lv_iconst (v := 1) hx hb d_M_common_43 rfl ?_
            refine lv_iadd hx hb d_M_common_44 ?_
            refine lv_goto (tgt := 49) hx hb d_M_common_45 rfl ?_
            exact K49 v4 (v3 + 1) _  (lv_sub hl [0, 1, 2, 4] rfl) hf
  exact LH5 n5 0 0 _ (lv_sub hl [2, 3, 4, 1, 0] rfl) hq5
noncomputable def fM_clash_37 (s37_0 : Int32) (M : Mem) : Option (Int32 × Mem) := some (s37_0, M)
noncomputable def fM_clash_20 (v1 v2 s20_0 : Int32) (M : Mem) : Option (Int32 × Mem) := xbd (fM_goes s20_0 1 M) (fun r1 => if r1.1 = 0 then (fM_clash_37 0 r1.2) else (xbd (fM_common v1 v2 r1.2) (fun r2 => fM_clash_37 r2 r1.2)))
noncomputable def fM_clash_19 (v1 v2 : Int32) (M : Mem) : Option (Int32 × Mem) := fM_clash_20 v1 v2 0 M
noncomputable def fM_clash (a1 a2 : Int32) (M : Mem) : Option (Int32 × Mem) := xbd (fM_isPaper a1) (fun r3 => if r3 = 0 then (fM_clash_19 a1 a2 M) else (xbd (fM_isPaper a2) (fun r4 => if r4 = 0 then (fM_clash_19 a1 a2 M) else (fM_clash_20 a1 a2 1 M))))
set_option maxHeartbeats 4000000 in
set_option maxRecDepth 100000 in
theorem tM_clash (l : Launch) (G : va_G) (c3 : ClassId × ClassId × ClassId) (ad : Nat → Nat) (hd : adI SM ad) (M : Mem) (a1 a2 : Int32) (o1 : Int32) (o2 : Mem) (hf : fM_clash a1 a2 M = some (o1, o2)) : WMet l yM_clash cM_clash 3 (some .int) (rm0_ 1 24) G kl SM c3 ad M [.ref (ad 0), .int a1, .int a2] (some (.int o1)) o2 := by
  generalize hout : (o1, o2) = out at hf
  obtain rfl : out.1 = o1 := by rw [← hout]
  obtain rfl : out.2 = o2 := by rw [← hout]
  clear hout
  refine WMet.of (by decide +kernel) (Nat.le_of_ble_eq_true rfl) (fun p e s m args below meth c ls F hT hK hP hr hlk hl hS => ?_)
  have hx := F.1
  have hb := F.2.1
  have F : CallFix p m c cM_clash 3 s args gw RM := F
  have hown := F.2.2.2.1
  have hl : lv_has ls 3 [(0, .ref (ad 0)), (1, .int a1), (2, .int a2)] := hl
  revert hP hS
  suffices hall : ∀ (H : Heap) (locs : List Loc), va_P G kl (wd SM c3 ad M) H → va_S (adA SM ad) s.heap H locs → W p l e (rm0_ 1 24) s m args below meth c H locs 0 0 (MQ below (QW G kl SM c3 ad (some (.int out.1)) out.2) args s 0 0 (adA SM ad)) (F0 m 0 ls []) from hall s.heap []
  intro H locs hP hS
  have K37 : ∀ (s37_0 : Int32) (M : Mem) (H : Heap) (locs : List Loc) (ls : Array Slot), lv_has ls 3 [] → va_P G kl (wd SM c3 ad M) H → va_S (adA SM ad) s.heap H locs → fM_clash_37 s37_0 M = some out → W p l e (rm0_ 1 24) s m args below meth c H locs 0 0 (MQ below (QW G kl SM c3 ad (some (.int out.1)) out.2) args s 0 0 (adA SM ad)) (F0 m 37 ls [.int s37_0]) := by
    intro s37_0 M H locs ls  hl hP hS hf
    unfold fM_clash_37 at hf
    exact xw_iret hx hb hr hlk hP hS (Option.some.inj hf) d_M_clash_37
  have K20 : ∀ (v1 v2 s20_0 : Int32) (M : Mem) (H : Heap) (locs : List Loc) (ls : Array Slot), lv_has ls 3 [(0, .ref (ad 0)), (1, .int v1), (2, .int v2)] → va_P G kl (wd SM c3 ad M) H → va_S (adA SM ad) s.heap H locs → fM_clash_20 v1 v2 s20_0 M = some out → W p l e (rm0_ 1 24) s m args below meth c H locs 0 0 (MQ below (QW G kl SM c3 ad (some (.int out.1)) out.2) args s 0 0 (adA SM ad)) (F0 m 20 ls [.int s20_0, .ref (ad 0)]) := by
    intro v1 v2 s20_0 M H locs ls  hl hP hS hf
    unfold fM_clash_20 at hf
    refine lv_iconst (v := 1) hx hb d_M_clash_20 rfl ?_
    obtain ⟨r1, hr1, hf⟩ := xbd_some hf
    refine xc_wv (rest := []) F hT hK hP hS (fun _ h => h) (tM_goes l G c3 ad hd M s20_0 1 r1.1 r1.2 hr1) sM_0 rfl wl_M_97 wi_M_goes we_M_goes wn_M wc_M_goes ck_M_goes ⟨rfl, rfl⟩ ⟨by decide, by decide⟩ ⟨Nat.le_refl _, Nat.le_refl _⟩ hl.1 rfl (Nat.le_of_ble_eq_true rfl) d_M_clash_21 (fun H locs hP hS _ => ?_)
    refine lv_if_eq (tgt := 36) hx hb d_M_clash_24 rfl (fun hc => ?_) (fun hc => ?_)
    · have hf := ite_t hc hf
      refine lv_iconst (v := 0) hx hb d_M_clash_36 rfl ?_
      exact K37 0 r1.2 _ _ _  (lv_sub hl [] rfl) hP hS hf
    · have hf := ite_f hc hf
      refine lv_aload_n hx hb d_M_clash_27 rfl (lv_at hl 0 rfl) ?_
      refine lv_iload_n hx hb d_M_clash_28 rfl (lv_at hl 1 rfl) ?_
      refine lv_iload_n hx hb d_M_clash_29 rfl (lv_at hl 2 rfl) ?_
      obtain ⟨r2, hr2, hf⟩ := xbd_some hf
      refine xc_rv (rest := []) F hT hK hP (tM_common l G c3 ad r1.2 v1 v2 r2 hr2) sM_0 rfl wl_M_110 wi_M_common we_M_common wn_M wc_M_common ck_M_common ⟨rfl, rfl⟩ ⟨by decide, by decide⟩ ⟨Nat.le_refl _, Nat.le_refl _⟩ hl.1 rfl (Nat.le_of_ble_eq_true rfl) d_M_clash_30 ?_
      refine lv_goto (tgt := 37) hx hb d_M_clash_33 rfl ?_
      exact K37 r2 r1.2 _ _ _  (lv_sub hl [] rfl) hP hS hf
  have K19 : ∀ (v1 v2 : Int32) (M : Mem) (H : Heap) (locs : List Loc) (ls : Array Slot), lv_has ls 3 [(0, .ref (ad 0)), (1, .int v1), (2, .int v2)] → va_P G kl (wd SM c3 ad M) H → va_S (adA SM ad) s.heap H locs → fM_clash_19 v1 v2 M = some out → W p l e (rm0_ 1 24) s m args below meth c H locs 0 0 (MQ below (QW G kl SM c3 ad (some (.int out.1)) out.2) args s 0 0 (adA SM ad)) (F0 m 19 ls [.ref (ad 0)]) := by
    intro v1 v2 M H locs ls  hl hP hS hf
    unfold fM_clash_19 at hf
    refine lv_iconst (v := 0) hx hb d_M_clash_19 rfl ?_
    exact K20 v1 v2 0 M _ _ _  hl hP hS hf
  unfold fM_clash at hf
  refine lv_aload_n hx hb d_M_clash_0 rfl (lv_at hl 0 rfl) ?_
  refine lv_iload_n hx hb d_M_clash_1 rfl (lv_at hl 1 rfl) ?_
  obtain ⟨r3, hr3, hf⟩ := xbd_some hf
  refine xc_rs (rest := [.ref (ad 0)]) F hT hK hP (tM_isPaper l G c3 ad M a1 r3 hr3) wl_M_89 ws_M_isPaper wn_M wc_M_isPaper ck_M_isPaper ⟨rfl, rfl⟩ ⟨by decide, by decide⟩ ⟨Nat.le_refl _, Nat.le_refl _⟩ hl.1 rfl (Nat.le_of_ble_eq_true rfl) d_M_clash_2 ?_
  refine lv_if_eq (tgt := 19) hx hb d_M_clash_5 rfl (fun hc => ?_) (fun hc => ?_)
  · have hf := ite_t hc hf
    exact K19 a1 a2 M _ _ _  hl hP hS hf
  · have hf := ite_f hc hf
    refine lv_iload_n hx hb d_M_clash_8 rfl (lv_at hl 2 rfl) ?_
    obtain ⟨r4, hr4, hf⟩ := xbd_some hf
    refine xc_rs (rest := [.ref (ad 0)]) F hT hK hP (tM_isPaper l G c3 ad M a2 r4 hr4) wl_M_89 ws_M_isPaper wn_M wc_M_isPaper ck_M_isPaper ⟨rfl, rfl⟩ ⟨by decide, by decide⟩ ⟨Nat.le_refl _, Nat.le_refl _⟩ hl.1 rfl (Nat.le_of_ble_eq_true rfl) d_M_clash_9 ?_
    refine lv_if_eq (tgt := 19) hx hb d_M_clash_12 rfl (fun hc => ?_) (fun hc => ?_)
    · have hf := ite_t hc hf
      exact K19 a1 a2 M _ _ _  hl hP hS hf
    · have hf := ite_f hc hf
      refine lv_iconst (v := 1) hx hb d_M_clash_15 rfl ?_
      refine lv_goto (tgt := 20) hx hb d_M_clash_16 rfl ?_
      exact K20 a1 a2 1 M _ _ _  hl hP hS hf
noncomputable def fM_held_35 (v1 : Int32) (M : Mem) : Option (Int32) := some v1
noncomputable def fM_held_28 (v2 s28_0 : Int32) (M : Mem) : Option ((Int32 × Int32) ⊕ (Int32 × Int32)) := xlt (v2 + 1) (fun x1 => some (.inr (s28_0, x1)))
noncomputable def gM_held_4 (M : Mem) (v1 v2 : Int32) : Option ((Int32 × Int32) ⊕ (Int32 × Int32)) := if 9 ≤ v2 then (some (.inl (v1, v2))) else (xgd (vp_in v2 9) (if (M 1 v2.toNatClampNeg) ≤ 0 then (fM_held_28 v2 v1 M) else (fM_held_28 v2 (v1 ||| ((1 : Int32) <<< (v2 &&& 31))) M)))
noncomputable def bM_held_4 (M : Mem) : Int32 × Int32 → Option ((Int32 × Int32) ⊕ (Int32 × Int32)) := fun st => gM_held_4 M st.1 st.2
noncomputable def fM_held (M : Mem) : Option (Int32) := xbd (xlp (bM_held_4  M) (0, 0)) (fun e4 => fM_held_35 e4.1 M)
set_option maxHeartbeats 4000000 in
set_option maxRecDepth 100000 in
theorem tM_held (l : Launch) (G : va_G) (c3 : ClassId × ClassId × ClassId) (ad : Nat → Nat) (M : Mem) (out : Int32) (hf : fM_held M = some out) : RMet l yM_held cM_held 3 (some .int) (rm0_ 0 0) G kl SM c3 ad M [.ref (ad 0)] out := by
  refine RMet.of (by decide +kernel) (Nat.le_of_ble_eq_true rfl) (fun p e s m args below meth c ls F hT hK hP hr hlk hl => ?_)
  have hx := F.1
  have hb := F.2.1
  have F : CallFix p m c cM_held 3 s args gw RM := F
  have hown := F.2.2.2.1
  have hl : lv_has ls 3 [(0, .ref (ad 0))] := hl
  have K35 : ∀ (v1 : Int32) (ls : Array Slot), lv_has ls 3 [(1, .int v1)] → fM_held_35 v1 M = some out → W p l e (rm0_ 0 0) s m args below meth c s.heap [] 0 0 (MQ below (QcRead out) args s 0 0 (fun _ => False)) (F0 m 35 ls []) := by
    intro v1 ls  hl hf
    unfold fM_held_35 at hf
    refine lv_iload_n hx hb d_M_held_35 rfl (lv_at hl 0 rfl) ?_
    exact xr_iret hx hb hr hlk (Option.some.inj hf) d_M_held_36
  unfold fM_held at hf
  refine lv_iconst (v := 0) hx hb d_M_held_0 rfl ?_
  refine lv_istore_n (lv' := [(1, .int 0), (0, .ref (ad 0))]) hx hb d_M_held_1 rfl hl (by decide) rfl (fun ls hl => ?_)
  refine lv_iconst (v := 0) hx hb d_M_held_2 rfl ?_
  refine lv_istore_n (lv' := [(2, .int 0), (1, .int 0), (0, .ref (ad 0))]) hx hb d_M_held_3 rfl hl (by decide) rfl (fun ls hl => ?_)
  obtain ⟨e4, he4, hk4⟩ := xbd_some hf
  obtain ⟨n4, hq4⟩ := xlp_n he4
  have LH4 : ∀ (n : Nat) (v1 v2 : Int32) (ls : Array Slot), lv_has ls 3 [(0, .ref (ad 0)), (1, .int v1), (2, .int v2)] → xwh (bM_held_4  M) n (v1, v2) = some e4 → W p l e (rm0_ 0 0) s m args below meth c s.heap [] 0 0 (MQ below (QcRead out) args s 0 0 (fun _ => False)) (F0 m 4 ls []) := by
    intro n
    induction n with
    | zero =>
      intro v1 v2 ls hl hn
      exact xwh_0 hn
    | succ n ih4 =>
      intro v1 v2 ls hl hn4
      obtain ⟨o4, hf, hn4⟩ := xwh_s hn4
      have hf : gM_held_4 M v1 v2 = some o4 := hf
      have K28 : ∀ (v2 s28_0 : Int32) (ls : Array Slot), lv_has ls 3 [(0, .ref (ad 0)), (2, .int v2)] → fM_held_28 v2 s28_0 M = some o4 → W p l e (rm0_ 0 0) s m args below meth c s.heap [] 0 0 (MQ below (QcRead out) args s 0 0 (fun _ => False)) (F0 m 28 ls [.int s28_0]) := by
        intro v2 s28_0 ls  hl hf
        unfold fM_held_28 at hf
        refine lv_istore_n (lv' := [(1, .int s28_0), (0, .ref (ad 0)), (2, .int v2)]) hx hb d_M_held_28 rfl hl (by decide) rfl (fun ls hl => ?_)
        obtain ⟨x1, hx1, hf⟩ := xlt_some hf
        refine lv_iinc (k := 2) (lv' := [(2, .int x1), (1, .int s28_0), (0, .ref (ad 0))]) hx hb d_M_held_29 hl rfl hx1 (by decide) rfl (fun ls hl => ?_)
        refine lv_goto (tgt := 4) hx hb d_M_held_32 rfl ?_
        exact ih4 s28_0 x1 _ (lv_sub hl [2, 1, 0] rfl) (xw_again hf hn4)
      unfold gM_held_4 at hf
      refine lv_iload_n hx hb d_M_held_4 rfl (lv_at hl 2 rfl) ?_
      refine lv_bipush (v := 9) hx hb d_M_held_5 rfl ?_
      refine lv_icmp_ge (tgt := 35) hx hb d_M_held_7 rfl (fun hc => ?_) (fun hc => ?_)
      · have hf := ite_t hc hf
        have he := xw_exit hf hn4
        subst he
        have hf := hk4
        exact K35 v1 _  (lv_sub hl [1] rfl) hf
      · have hf := ite_f hc hf
        refine lv_aload_n hx hb d_M_held_10 rfl (lv_at hl 0 rfl) ?_
        refine xr_getr hx hb hT hown hK hP sM_0 rfl inM 1 (by decide) wf_M_7 rfl d_M_held_11 ?_
        refine lv_iload_n hx hb d_M_held_14 rfl (lv_at hl 2 rfl) ?_
        obtain ⟨g2, hf⟩ := xgd_some hf
        refine xr_iald hx hb hK hP sM_1 g2 d_M_held_15 ?_
        refine lv_if_le (tgt := 27) hx hb d_M_held_16 rfl (fun hc => ?_) (fun hc => ?_)
        · have hf := ite_t hc hf
          refine lv_iload_n hx hb d_M_held_27 rfl (lv_at hl 1 rfl) ?_
          exact K28 v2 v1 _  (lv_sub hl [0, 2] rfl) hf
        · have hf := ite_f hc hf
          refine lv_iload_n hx hb d_M_held_19 rfl (lv_at hl 1 rfl) ?_
          refine lv_iconst (v := 1) hx hb d_M_held_20 rfl ?_
          refine lv_iload_n hx hb d_M_held_21 rfl (lv_at hl 2 rfl) ?_
          refine lv_ishl hx hb d_M_held_22 ?_
          refine lv_ior hx hb d_M_held_23 ?_
          refine lv_goto (tgt := 28) hx hb d_M_held_24 rfl ?_
          exact K28 v2 (v1 ||| ((1 : Int32) <<< (v2 &&& 31))) _  (lv_sub hl [0, 2] rfl) hf
  exact LH4 n4 0 0 _ (lv_sub hl [2, 1, 0] rfl) hq4
noncomputable def fM_has_14 (s14_0 : Int32) : Option (Int32) := xgd (s14_0 = 0 ∨ s14_0 = 1) (some s14_0)
noncomputable def fM_has (a0 a1 : Int32) : Option (Int32) := if ((a0 >>> (a1 &&& 31)) &&& 1) = 1 then (fM_has_14 1) else (fM_has_14 0)
set_option maxHeartbeats 4000000 in
set_option maxRecDepth 100000 in
theorem tM_has (l : Launch) (G : va_G) (c3 : ClassId × ClassId × ClassId) (ad : Nat → Nat) (M : Mem) (a0 a1 : Int32) (out : Int32) (hf : fM_has a0 a1 = some out) : RMet l yM_has cM_has 2 (some .boolean) (rm0_ 0 0) G kl SM c3 ad M [.int a0, .int a1] out := by
  refine RMet.of (by decide +kernel) (Nat.le_of_ble_eq_true rfl) (fun p e s m args below meth c ls F hT hK hP hr hlk hl => ?_)
  have hx := F.1
  have hb := F.2.1
  have F : CallFix p m c cM_has 2 s args gw RM := F
  have hown := F.2.2.2.1
  have hl : lv_has ls 2 [(0, .int a0), (1, .int a1)] := hl
  have K14 : ∀ (s14_0 : Int32) (ls : Array Slot), lv_has ls 2 [] → fM_has_14 s14_0 = some out → W p l e (rm0_ 0 0) s m args below meth c s.heap [] 0 0 (MQ below (QcRead out) args s 0 0 (fun _ => False)) (F0 m 14 ls [.int s14_0]) := by
    intro s14_0 ls  hl hf
    unfold fM_has_14 at hf
    obtain ⟨z1, hf⟩ := xgd_some hf
    exact xr_zret hx hb hr hlk z1 (Option.some.inj hf) d_M_has_14
  unfold fM_has at hf
  refine lv_iload_n hx hb d_M_has_0 rfl (lv_at hl 0 rfl) ?_
  refine lv_iload_n hx hb d_M_has_1 rfl (lv_at hl 1 rfl) ?_
  refine lv_ishr hx hb d_M_has_2 ?_
  refine lv_iconst (v := 1) hx hb d_M_has_3 rfl ?_
  refine lv_iand hx hb d_M_has_4 ?_
  refine lv_iconst (v := 1) hx hb d_M_has_5 rfl ?_
  refine lv_icmp_ne (tgt := 13) hx hb d_M_has_6 rfl (fun hc => ?_) (fun hc => ?_)
  · have hf := ite_f hc hf
    refine lv_iconst (v := 0) hx hb d_M_has_13 rfl ?_
    exact K14 0 _  (lv_sub hl [] rfl) hf
  · have hf := ite_t hc hf
    refine lv_iconst (v := 1) hx hb d_M_has_9 rfl ?_
    refine lv_goto (tgt := 14) hx hb d_M_has_10 rfl ?_
    exact K14 1 _  (lv_sub hl [] rfl) hf
noncomputable def fM_fits_234 (v4 : Int32) (M : Mem) : Option (Int32) := xgd (v4 = 0 ∨ v4 = 1) (some v4)
noncomputable def fM_fits_228 (v1 v2 v3 v4 v5 : Int32) (M : Mem) : Option ((Int32 × Int32) ⊕ (Int32 × Int32)) := xlt (v5 + 1) (fun x2 => some (.inr (v4, x2)))
noncomputable def fM_fits_220 (v1 v2 v3 v5 v6 s220_0 : Int32) (M : Mem) : Option ((Int32 × Int32) ⊕ (Int32 × Int32)) := xlt (v6 + 1) (fun x3 => some (.inr (s220_0, x3)))
noncomputable def fM_fits_219 (v1 v2 v3 v5 v6 : Int32) (M : Mem) : Option ((Int32 × Int32) ⊕ (Int32 × Int32)) := fM_fits_220 v1 v2 v3 v5 v6 0 M
noncomputable def fM_fits_215 (v1 v2 v3 v5 v6 : Int32) (M : Mem) : Option ((Int32 × Int32) ⊕ (Int32 × Int32)) := fM_fits_220 v1 v2 v3 v5 v6 1 M
noncomputable def fM_fits_189 (v1 v2 v3 v5 v6 v7 v8 : Int32) (M : Mem) : Option ((Int32 × Int32) ⊕ (Int32 × Int32)) := if v8 = 0 then (fM_fits_215 v1 v2 v3 v5 v6 M) else (if v7 = 0 then (xlt (((9 * v5) + v6)) (fun x4 => xgd (vp_in x4 243) (if (M 6 x4.toNatClampNeg) = 0 then (fM_fits_215 v1 v2 v3 v5 v6 M) else (fM_fits_219 v1 v2 v3 v5 v6 M)))) else (fM_fits_215 v1 v2 v3 v5 v6 M))
noncomputable def gM_fits_85 (v1 v2 v3 v5 : Int32) (M : Mem) (v4 v6 : Int32) : Option ((Int32 × Int32) ⊕ (Int32 × Int32)) := if 9 ≤ v6 then (some (.inl (v4, v6))) else (xbd (fM_has v2 v5) (fun r6 => if r6 = 0 then (some (.inl (v4, v6))) else (if v4 = 0 then (some (.inl (v4, v6))) else (xbd (fM_has v2 v6) (fun r7 => xbd (fM_has v3 v6) (fun r8 => if r7 = 0 then (fM_fits_189 v1 v2 v3 v5 v6 r7 r8 M) else (if v5 = v6 then (fM_fits_189 v1 v2 v3 v5 v6 r7 r8 M) else (xlt (((81 + (9 * v5)) + v6)) (fun x9 => xgd (vp_in x9 243) (if (M 6 x9.toNatClampNeg) = 0 then (xlt (((162 + (9 * v5)) + v6)) (fun x11 => xgd (vp_in x11 243) (if (M 6 x11.toNatClampNeg) = 0 then (xlt (((9 * v5) + v6)) (fun x13 => xgd (vp_in x13 81) (if (M 12 x13.toNatClampNeg) = 0 then (fM_fits_189 v1 v2 v3 v5 v6 r7 r8 M) else (fM_fits_219 v1 v2 v3 v5 v6 M)))) else (fM_fits_219 v1 v2 v3 v5 v6 M)))) else (fM_fits_219 v1 v2 v3 v5 v6 M)))))))))))
noncomputable def bM_fits_85 (v1 v2 v3 v5 : Int32) (M : Mem) : Int32 × Int32 → Option ((Int32 × Int32) ⊕ (Int32 × Int32)) := fun st => gM_fits_85 v1 v2 v3 v5 M st.1 st.2
noncomputable def fM_fits_80 (v1 v2 v3 v5 s80_0 : Int32) (M : Mem) : Option ((Int32 × Int32) ⊕ (Int32 × Int32)) := xbd (xlp (bM_fits_85 v1 v2 v3 v5 M) (s80_0, 0)) (fun e85 => fM_fits_228 v1 v2 v3 e85.1 v5 M)
noncomputable def fM_fits_79 (v1 v2 v3 v5 : Int32) (M : Mem) : Option ((Int32 × Int32) ⊕ (Int32 × Int32)) := fM_fits_80 v1 v2 v3 v5 0 M
noncomputable def fM_fits_75 (v1 v2 v3 v5 : Int32) (M : Mem) : Option ((Int32 × Int32) ⊕ (Int32 × Int32)) := fM_fits_80 v1 v2 v3 v5 1 M
noncomputable def gM_fits_6 (v1 v2 v3 : Int32) (M : Mem) (v4 v5 : Int32) : Option ((Int32 × Int32) ⊕ (Int32 × Int32)) := if 9 ≤ v5 then (some (.inl (v4, v5))) else (if v4 = 0 then (fM_fits_79 v1 v2 v3 v5 M) else (xbd (fM_has v2 v5) (fun r27 => if r27 = 0 then (fM_fits_75 v1 v2 v3 v5 M) else (xgd (vp_in v5 9) (if (M 1 v5.toNatClampNeg) ≤ 0 then (fM_fits_79 v1 v2 v3 v5 M) else (xgd (vp_in v1 6) (xgd (vp_in v5 9) (if (M 2 v1.toNatClampNeg) < (M 1 v5.toNatClampNeg) then (fM_fits_79 v1 v2 v3 v5 M) else (xgd (vp_in v5 9) (if (M 3 v5.toNatClampNeg) = (-1) then (fM_fits_75 v1 v2 v3 v5 M) else (xgd (vp_in v5 9) (if (M 3 v5.toNatClampNeg) = v1 then (fM_fits_75 v1 v2 v3 v5 M) else (fM_fits_79 v1 v2 v3 v5 M)))))))))))))
noncomputable def bM_fits_6 (v1 v2 v3 : Int32) (M : Mem) : Int32 × Int32 → Option ((Int32 × Int32) ⊕ (Int32 × Int32)) := fun st => gM_fits_6 v1 v2 v3 M st.1 st.2
noncomputable def fM_fits (a1 a2 a3 : Int32) (M : Mem) : Option (Int32) := xbd (xlp (bM_fits_6 a1 a2 a3 M) (1, 0)) (fun e6 => fM_fits_234 e6.1 M)
set_option maxHeartbeats 4000000 in
set_option maxRecDepth 100000 in
theorem tM_fits (l : Launch) (G : va_G) (c3 : ClassId × ClassId × ClassId) (ad : Nat → Nat) (M : Mem) (a1 a2 a3 : Int32) (out : Int32) (hf : fM_fits a1 a2 a3 M = some out) : RMet l yM_fits cM_fits 9 (some .boolean) (rm0_ 1 21) G kl SM c3 ad M [.ref (ad 0), .int a1, .int a2, .int a3] out := by
  refine RMet.of (by decide +kernel) (Nat.le_of_ble_eq_true rfl) (fun p e s m args below meth c ls F hT hK hP hr hlk hl => ?_)
  have hx := F.1
  have hb := F.2.1
  have F : CallFix p m c cM_fits 9 s args gw RM := F
  have hown := F.2.2.2.1
  have hl : lv_has ls 9 [(0, .ref (ad 0)), (1, .int a1), (2, .int a2), (3, .int a3)] := hl
  have K234 : ∀ (v4 : Int32) (ls : Array Slot), lv_has ls 9 [(4, .int v4)] → fM_fits_234 v4 M = some out → W p l e (rm0_ 1 21) s m args below meth c s.heap [] 0 0 (MQ below (QcRead out) args s 0 0 (fun _ => False)) (F0 m 234 ls []) := by
    intro v4 ls  hl hf
    unfold fM_fits_234 at hf
    refine lv_iload hx hb d_M_fits_234 (lv_at hl 0 rfl) ?_
    obtain ⟨z1, hf⟩ := xgd_some hf
    exact xr_zret hx hb hr hlk z1 (Option.some.inj hf) d_M_fits_236
  unfold fM_fits at hf
  refine lv_iconst (v := 1) hx hb d_M_fits_0 rfl ?_
  refine lv_istore (lv' := [(4, .int 1), (0, .ref (ad 0)), (1, .int a1), (2, .int a2), (3, .int a3)]) hx hb d_M_fits_1 hl (by decide) rfl (fun ls hl => ?_)
  refine lv_iconst (v := 0) hx hb d_M_fits_3 rfl ?_
  refine lv_istore (lv' := [(5, .int 0), (4, .int 1), (0, .ref (ad 0)), (1, .int a1), (2, .int a2), (3, .int a3)]) hx hb d_M_fits_4 hl (by decide) rfl (fun ls hl => ?_)
  obtain ⟨e6, he6, hk6⟩ := xbd_some hf
  obtain ⟨n6, hq6⟩ := xlp_n he6
  have LH6 : ∀ (n : Nat) (v4 v5 : Int32) (ls : Array Slot), lv_has ls 9 [(0, .ref (ad 0)), (1, .int a1), (2, .int a2), (3, .int a3), (4, .int v4), (5, .int v5)] → xwh (bM_fits_6 a1 a2 a3 M) n (v4, v5) = some e6 → W p l e (rm0_ 1 21) s m args below meth c s.heap [] 0 0 (MQ below (QcRead out) args s 0 0 (fun _ => False)) (F0 m 6 ls []) := by
    intro n
    induction n with
    | zero =>
      intro v4 v5 ls hl hn
      exact xwh_0 hn
    | succ n ih6 =>
      intro v4 v5 ls hl hn6
      obtain ⟨o6, hf, hn6⟩ := xwh_s hn6
      have hf : gM_fits_6 a1 a2 a3 M v4 v5 = some o6 := hf
      have K228 : ∀ (v4 v5 : Int32) (ls : Array Slot), lv_has ls 9 [(0, .ref (ad 0)), (1, .int a1), (2, .int a2), (3, .int a3), (4, .int v4), (5, .int v5)] → fM_fits_228 a1 a2 a3 v4 v5 M = some o6 → W p l e (rm0_ 1 21) s m args below meth c s.heap [] 0 0 (MQ below (QcRead out) args s 0 0 (fun _ => False)) (F0 m 228 ls []) := by
        intro v4 v5 ls  hl hf
        unfold fM_fits_228 at hf
        obtain ⟨x2, hx2, hf⟩ := xlt_some hf
        refine lv_iinc (k := 5) (lv' := [(5, .int x2), (0, .ref (ad 0)), (1, .int a1), (2, .int a2), (3, .int a3), (4, .int v4)]) hx hb d_M_fits_228 hl rfl hx2 (by decide) rfl (fun ls hl => ?_)
        refine lv_goto (tgt := 6) hx hb d_M_fits_231 rfl ?_
        exact ih6 v4 x2 _ (lv_sub hl [1, 2, 3, 4, 5, 0] rfl) (xw_again hf hn6)
      have K80 : ∀ (v5 s80_0 : Int32) (ls : Array Slot), lv_has ls 9 [(0, .ref (ad 0)), (1, .int a1), (2, .int a2), (3, .int a3), (5, .int v5)] → fM_fits_80 a1 a2 a3 v5 s80_0 M = some o6 → W p l e (rm0_ 1 21) s m args below meth c s.heap [] 0 0 (MQ below (QcRead out) args s 0 0 (fun _ => False)) (F0 m 80 ls [.int s80_0]) := by
        intro v5 s80_0 ls  hl hf
        unfold fM_fits_80 at hf
        refine lv_istore (lv' := [(4, .int s80_0), (0, .ref (ad 0)), (1, .int a1), (2, .int a2), (3, .int a3), (5, .int v5)]) hx hb d_M_fits_80 hl (by decide) rfl (fun ls hl => ?_)
        refine lv_iconst (v := 0) hx hb d_M_fits_82 rfl ?_
        refine lv_istore (lv' := [(6, .int 0), (4, .int s80_0), (0, .ref (ad 0)), (1, .int a1), (2, .int a2), (3, .int a3), (5, .int v5)]) hx hb d_M_fits_83 hl (by decide) rfl (fun ls hl => ?_)
        obtain ⟨e85, he85, hk85⟩ := xbd_some hf
        obtain ⟨n85, hq85⟩ := xlp_n he85
        have LH85 : ∀ (n : Nat) (v4 v6 : Int32) (ls : Array Slot), lv_has ls 9 [(0, .ref (ad 0)), (1, .int a1), (2, .int a2), (3, .int a3), (4, .int v4), (5, .int v5), (6, .int v6)] → xwh (bM_fits_85 a1 a2 a3 v5 M) n (v4, v6) = some e85 → W p l e (rm0_ 1 21) s m args below meth c s.heap [] 0 0 (MQ below (QcRead out) args s 0 0 (fun _ => False)) (F0 m 85 ls []) := by
          intro n
          induction n with
          | zero =>
            intro v4 v6 ls hl hn
            exact xwh_0 hn
          | succ n ih85 =>
            intro v4 v6 ls hl hn85
            obtain ⟨o85, hf, hn85⟩ := xwh_s hn85
            have hf : gM_fits_85 a1 a2 a3 v5 M v4 v6 = some o85 := hf
            have K220 : ∀ (v6 s220_0 : Int32) (ls : Array Slot), lv_has ls 9 [(0, .ref (ad 0)), (1, .int a1), (2, .int a2), (3, .int a3), (5, .int v5), (6, .int v6)] → fM_fits_220 a1 a2 a3 v5 v6 s220_0 M = some o85 → W p l e (rm0_ 1 21) s m args below meth c s.heap [] 0 0 (MQ below (QcRead out) args s 0 0 (fun _ => False)) (F0 m 220 ls [.int s220_0]) := by
              intro v6 s220_0 ls  hl hf
              unfold fM_fits_220 at hf
              refine lv_istore (lv' := [(4, .int s220_0), (0, .ref (ad 0)), (1, .int a1), (2, .int a2), (3, .int a3), (5, .int v5), (6, .int v6)]) hx hb d_M_fits_220 hl (by decide) rfl (fun ls hl => ?_)
              obtain ⟨x3, hx3, hf⟩ := xlt_some hf
              refine lv_iinc (k := 6) (lv' := [(6, .int x3), (4, .int s220_0), (0, .ref (ad 0)), (1, .int a1), (2, .int a2), (3, .int a3), (5, .int v5)]) hx hb d_M_fits_222 hl rfl hx3 (by decide) rfl (fun ls hl => ?_)
              refine lv_goto (tgt := 85) hx hb d_M_fits_225 rfl ?_
              exact ih85 s220_0 x3 _ (lv_sub hl [2, 3, 4, 5, 1, 6, 0] rfl) (xw_again hf hn85)
            have K219 : ∀ (v6 : Int32) (ls : Array Slot), lv_has ls 9 [(0, .ref (ad 0)), (1, .int a1), (2, .int a2), (3, .int a3), (5, .int v5), (6, .int v6)] → fM_fits_219 a1 a2 a3 v5 v6 M = some o85 → W p l e (rm0_ 1 21) s m args below meth c s.heap [] 0 0 (MQ below (QcRead out) args s 0 0 (fun _ => False)) (F0 m 219 ls []) := by
              intro v6 ls  hl hf
              unfold fM_fits_219 at hf
              refine lv_iconst (v := 0) hx hb d_M_fits_219 rfl ?_
              exact K220 v6 0 _  hl hf
            have K215 : ∀ (v6 : Int32) (ls : Array Slot), lv_has ls 9 [(0, .ref (ad 0)), (1, .int a1), (2, .int a2), (3, .int a3), (5, .int v5), (6, .int v6)] → fM_fits_215 a1 a2 a3 v5 v6 M = some o85 → W p l e (rm0_ 1 21) s m args below meth c s.heap [] 0 0 (MQ below (QcRead out) args s 0 0 (fun _ => False)) (F0 m 215 ls []) := by
              intro v6 ls  hl hf
              unfold fM_fits_215 at hf
              refine lv_iconst (v := 1) hx hb d_M_fits_215 rfl ?_
              refine lv_goto (tgt := 220) hx hb d_M_fits_216 rfl ?_
              exact K220 v6 1 _  hl hf
            have K189 : ∀ (v6 v7 v8 : Int32) (ls : Array Slot), lv_has ls 9 [(0, .ref (ad 0)), (1, .int a1), (2, .int a2), (3, .int a3), (5, .int v5), (6, .int v6), (7, .int v7), (8, .int v8)] → fM_fits_189 a1 a2 a3 v5 v6 v7 v8 M = some o85 → W p l e (rm0_ 1 21) s m args below meth c s.heap [] 0 0 (MQ below (QcRead out) args s 0 0 (fun _ => False)) (F0 m 189 ls []) := by
              intro v6 v7 v8 ls  hl hf
              unfold fM_fits_189 at hf
              refine lv_iload hx hb d_M_fits_189 (lv_at hl 7 rfl) ?_
              refine lv_if_eq (tgt := 215) hx hb d_M_fits_191 rfl (fun hc => ?_) (fun hc => ?_)
              · have hf := ite_t hc hf
                exact K215 v6 _  (lv_sub hl [0, 1, 2, 3, 4, 5] rfl) hf
              · have hf := ite_f hc hf
                refine lv_iload hx hb d_M_fits_194 (lv_at hl 6 rfl) ?_
                refine lv_if_ne (tgt := 215) hx hb d_M_fits_196 rfl (fun hc => ?_) (fun hc => ?_)
                · have hf := ite_f hc hf
                  exact K215 v6 _  (lv_sub hl [0, 1, 2, 3, 4, 5] rfl) hf
                · have hf := ite_t hc hf
                  refine lv_aload_n hx hb d_M_fits_199 rfl (lv_at hl 0 rfl) ?_
                  refine xr_getr hx hb hT hown hK hP sM_0 rfl inM 6 (by decide) wf_M_26 rfl d_M_fits_200 ?_
                  refine lv_bipush (v := 9) hx hb d_M_fits_203 rfl ?_
                  refine lv_iload hx hb d_M_fits_205 (lv_at hl 4 rfl) ?_
                  refine lv_imul hx hb d_M_fits_207 ?_
                  refine lv_iload hx hb d_M_fits_208 (lv_at hl 5 rfl) ?_
                  refine lv_iadd hx hb d_M_fits_210 ?_
                  obtain ⟨x4, hx4, hf⟩ := xlt_some hf
                  refine xr_name hx4 ?_
                  obtain ⟨g5, hf⟩ := xgd_some hf
                  refine xr_zald hx hb hK hP sM_6 g5 d_M_fits_211 ?_
                  refine lv_if_ne (tgt := 219) hx hb d_M_fits_212 rfl (fun hc => ?_) (fun hc => ?_)
                  · have hf := ite_f hc hf
                    exact K219 v6 _  (lv_sub hl [0, 1, 2, 3, 4, 5] rfl) hf
                  · have hf := ite_t hc hf
                    exact K215 v6 _  (lv_sub hl [0, 1, 2, 3, 4, 5] rfl) hf
            unfold gM_fits_85 at hf
            refine lv_iload hx hb d_M_fits_85 (lv_at hl 6 rfl) ?_
            refine lv_bipush (v := 9) hx hb d_M_fits_87 rfl ?_
            refine lv_icmp_ge (tgt := 228) hx hb d_M_fits_89 rfl (fun hc => ?_) (fun hc => ?_)
            · have hf := ite_t hc hf
              have he := xw_exit hf hn85
              subst he
              have hf := hk85
              exact K228 v4 v5 _  (lv_sub hl [0, 1, 2, 3, 4, 5] rfl) hf
            · have hf := ite_f hc hf
              refine lv_iload_n hx hb d_M_fits_92 rfl (lv_at hl 2 rfl) ?_
              refine lv_iload hx hb d_M_fits_93 (lv_at hl 5 rfl) ?_
              obtain ⟨r6, hr6, hf⟩ := xbd_some hf
              refine xc_rs (rest := []) F hT hK hP (tM_has l G c3 ad M a2 v5 r6 hr6) wl_M_114 ws_M_has wn_M wc_M_has ck_M_has ⟨rfl, rfl⟩ ⟨by decide, by decide⟩ ⟨Nat.le_refl _, Nat.le_refl _⟩ hl.1 rfl (Nat.le_of_ble_eq_true rfl) d_M_fits_95 ?_
              refine lv_if_eq (tgt := 228) hx hb d_M_fits_98 rfl (fun hc => ?_) (fun hc => ?_)
              · have hf := ite_t hc hf
                have he := xw_exit hf hn85
                subst he
                have hf := hk85
                exact K228 v4 v5 _  (lv_sub hl [0, 1, 2, 3, 4, 5] rfl) hf
              · have hf := ite_f hc hf
                refine lv_iload hx hb d_M_fits_101 (lv_at hl 4 rfl) ?_
                refine lv_if_eq (tgt := 228) hx hb d_M_fits_103 rfl (fun hc => ?_) (fun hc => ?_)
                · have hf := ite_t hc hf
                  have he := xw_exit hf hn85
                  subst he
                  have hf := hk85
                  exact K228 v4 v5 _  (lv_sub hl [0, 1, 2, 3, 4, 5] rfl) hf
                · have hf := ite_f hc hf
                  refine lv_iload_n hx hb d_M_fits_106 rfl (lv_at hl 2 rfl) ?_
                  refine lv_iload hx hb d_M_fits_107 (lv_at hl 6 rfl) ?_
                  obtain ⟨r7, hr7, hf⟩ := xbd_some hf
                  refine xc_rs (rest := []) F hT hK hP (tM_has l G c3 ad M a2 v6 r7 hr7) wl_M_114 ws_M_has wn_M wc_M_has ck_M_has ⟨rfl, rfl⟩ ⟨by decide, by decide⟩ ⟨Nat.le_refl _, Nat.le_refl _⟩ hl.1 rfl (Nat.le_of_ble_eq_true rfl) d_M_fits_109 ?_
                  refine lv_istore (lv' := [(7, .int r7), (0, .ref (ad 0)), (1, .int a1), (2, .int a2), (3, .int a3), (4, .int v4), (5, .int v5), (6, .int v6)]) hx hb d_M_fits_112 hl (by decide) rfl (fun ls hl => ?_)
                  refine lv_iload_n hx hb d_M_fits_114 rfl (lv_at hl 4 rfl) ?_
                  refine lv_iload hx hb d_M_fits_115 (lv_at hl 7 rfl) ?_
                  obtain ⟨r8, hr8, hf⟩ := xbd_some hf
                  refine xc_rs (rest := []) F hT hK hP (tM_has l G c3 ad M a3 v6 r8 hr8) wl_M_114 ws_M_has wn_M wc_M_has ck_M_has ⟨rfl, rfl⟩ ⟨by decide, by decide⟩ ⟨Nat.le_refl _, Nat.le_refl _⟩ hl.1 rfl (Nat.le_of_ble_eq_true rfl) d_M_fits_117 ?_
                  refine lv_istore (lv' := [(8, .int r8), (7, .int r7), (0, .ref (ad 0)), (1, .int a1), (2, .int a2), (3, .int a3), (4, .int v4), (5, .int v5), (6, .int v6)]) hx hb d_M_fits_120 hl (by decide) rfl (fun ls hl => ?_)
                  refine lv_iload hx hb d_M_fits_122 (lv_at hl 1 rfl) ?_
                  refine lv_if_eq (tgt := 189) hx hb d_M_fits_124 rfl (fun hc => ?_) (fun hc => ?_)
                  · have hf := ite_t hc hf
                    exact K189 v6 r7 r8 _  (lv_sub hl [2, 3, 4, 5, 7, 8, 1, 0] rfl) hf
                  · have hf := ite_f hc hf
                    refine lv_iload hx hb d_M_fits_127 (lv_at hl 7 rfl) ?_
                    refine lv_iload hx hb d_M_fits_129 (lv_at hl 8 rfl) ?_
                    refine lv_icmp_eq (tgt := 189) hx hb d_M_fits_131 rfl (fun hc => ?_) (fun hc => ?_)
                    · have hf := ite_t hc hf
                      exact K189 v6 r7 r8 _  (lv_sub hl [2, 3, 4, 5, 7, 8, 1, 0] rfl) hf
                    · have hf := ite_f hc hf
                      refine lv_aload_n hx hb d_M_fits_134 rfl (lv_at hl 2 rfl) ?_
                      refine xr_getr hx hb hT hown hK hP sM_0 rfl inM 6 (by decide) wf_M_26 rfl d_M_fits_135 ?_
                      refine lv_bipush (v := 81) hx hb d_M_fits_138 rfl ?_
                      refine lv_bipush (v := 9) hx hb d_M_fits_140 rfl ?_
                      refine lv_iload hx hb d_M_fits_142 (lv_at hl 7 rfl) ?_
                      refine lv_imul hx hb d_M_fits_144 ?_
                      refine lv_iadd hx hb d_M_fits_145 ?_
                      refine lv_iload hx hb d_M_fits_146 (lv_at hl 8 rfl) ?_
                      refine lv_iadd hx hb d_M_fits_148 ?_
                      obtain ⟨x9, hx9, hf⟩ := xlt_some hf
                      refine xr_name hx9 ?_
                      obtain ⟨g10, hf⟩ := xgd_some hf
                      refine xr_zald hx hb hK hP sM_6 g10 d_M_fits_149 ?_
                      refine lv_if_ne (tgt := 219) hx hb d_M_fits_150 rfl (fun hc => ?_) (fun hc => ?_)
                      · have hf := ite_f hc hf
                        exact K219 v6 _  (lv_sub hl [2, 3, 4, 5, 7, 8] rfl) hf
                      · have hf := ite_t hc hf
                        refine lv_aload_n hx hb d_M_fits_153 rfl (lv_at hl 2 rfl) ?_
                        refine xr_getr hx hb hT hown hK hP sM_0 rfl inM 6 (by decide) wf_M_26 rfl d_M_fits_154 ?_
                        refine lv_sipush (v := 162) hx hb d_M_fits_157 rfl ?_
                        refine lv_bipush (v := 9) hx hb d_M_fits_160 rfl ?_
                        refine lv_iload hx hb d_M_fits_162 (lv_at hl 7 rfl) ?_
                        refine lv_imul hx hb d_M_fits_164 ?_
                        refine lv_iadd hx hb d_M_fits_165 ?_
                        refine lv_iload hx hb d_M_fits_166 (lv_at hl 8 rfl) ?_
                        refine lv_iadd hx hb d_M_fits_168 ?_
                        obtain ⟨x11, hx11, hf⟩ := xlt_some hf
                        refine xr_name hx11 ?_
                        obtain ⟨g12, hf⟩ := xgd_some hf
                        refine xr_zald hx hb hK hP sM_6 g12 d_M_fits_169 ?_
                        refine lv_if_ne (tgt := 219) hx hb d_M_fits_170 rfl (fun hc => ?_) (fun hc => ?_)
                        · have hf := ite_f hc hf
                          exact K219 v6 _  (lv_sub hl [2, 3, 4, 5, 7, 8] rfl) hf
                        · have hf := ite_t hc hf
                          refine lv_aload_n hx hb d_M_fits_173 rfl (lv_at hl 2 rfl) ?_
                          refine xr_getr hx hb hT hown hK hP sM_0 rfl inM 13 (by decide) wf_M_44 rfl d_M_fits_174 ?_
                          refine lv_bipush (v := 9) hx hb d_M_fits_177 rfl ?_
                          refine lv_iload hx hb d_M_fits_179 (lv_at hl 7 rfl) ?_
                          refine lv_imul hx hb d_M_fits_181 ?_
                          refine lv_iload hx hb d_M_fits_182 (lv_at hl 8 rfl) ?_
                          refine lv_iadd hx hb d_M_fits_184 ?_
                          obtain ⟨x13, hx13, hf⟩ := xlt_some hf
                          refine xr_name hx13 ?_
                          obtain ⟨g14, hf⟩ := xgd_some hf
                          refine xr_zald hx hb hK hP sM_12 g14 d_M_fits_185 ?_
                          refine lv_if_ne (tgt := 219) hx hb d_M_fits_186 rfl (fun hc => ?_) (fun hc => ?_)
                          · have hf := ite_f hc hf
                            exact K219 v6 _  (lv_sub hl [2, 3, 4, 5, 7, 8] rfl) hf
                          · have hf := ite_t hc hf
                            exact K189 v6 r7 r8 _  (lv_sub hl [2, 3, 4, 5, 7, 8, 1, 0] rfl) hf
        exact LH85 n85 s80_0 0 _ (lv_sub hl [2, 3, 4, 5, 1, 6, 0] rfl) hq85
      have K79 : ∀ (v5 : Int32) (ls : Array Slot), lv_has ls 9 [(0, .ref (ad 0)), (1, .int a1), (2, .int a2), (3, .int a3), (5, .int v5)] → fM_fits_79 a1 a2 a3 v5 M = some o6 → W p l e (rm0_ 1 21) s m args below meth c s.heap [] 0 0 (MQ below (QcRead out) args s 0 0 (fun _ => False)) (F0 m 79 ls []) := by
        intro v5 ls  hl hf
        unfold fM_fits_79 at hf
        refine lv_iconst (v := 0) hx hb d_M_fits_79 rfl ?_
        exact K80 v5 0 _  hl hf
      have K75 : ∀ (v5 : Int32) (ls : Array Slot), lv_has ls 9 [(0, .ref (ad 0)), (1, .int a1), (2, .int a2), (3, .int a3), (5, .int v5)] → fM_fits_75 a1 a2 a3 v5 M = some o6 → W p l e (rm0_ 1 21) s m args below meth c s.heap [] 0 0 (MQ below (QcRead out) args s 0 0 (fun _ => False)) (F0 m 75 ls []) := by
        intro v5 ls  hl hf
        unfold fM_fits_75 at hf
        refine lv_iconst (v := 1) hx hb d_M_fits_75 rfl ?_
        refine lv_goto (tgt := 80) hx hb d_M_fits_76 rfl ?_
        exact K80 v5 1 _  hl hf
      unfold gM_fits_6 at hf
      refine lv_iload hx hb d_M_fits_6 (lv_at hl 5 rfl) ?_
      refine lv_bipush (v := 9) hx hb d_M_fits_8 rfl ?_
      refine lv_icmp_ge (tgt := 234) hx hb d_M_fits_10 rfl (fun hc => ?_) (fun hc => ?_)
      · have hf := ite_t hc hf
        have he := xw_exit hf hn6
        subst he
        have hf := hk6
        exact K234 v4 _  (lv_sub hl [4] rfl) hf
      · have hf := ite_f hc hf
        refine lv_iload hx hb d_M_fits_13 (lv_at hl 4 rfl) ?_
        refine lv_if_eq (tgt := 79) hx hb d_M_fits_15 rfl (fun hc => ?_) (fun hc => ?_)
        · have hf := ite_t hc hf
          exact K79 v5 _  (lv_sub hl [0, 1, 2, 3, 5] rfl) hf
        · have hf := ite_f hc hf
          refine lv_iload_n hx hb d_M_fits_18 rfl (lv_at hl 2 rfl) ?_
          refine lv_iload hx hb d_M_fits_19 (lv_at hl 5 rfl) ?_
          obtain ⟨r15, hr15, hf⟩ := xbd_some hf
          refine xc_rs (rest := []) F hT hK hP (tM_has l G c3 ad M a2 v5 r15 hr15) wl_M_114 ws_M_has wn_M wc_M_has ck_M_has ⟨rfl, rfl⟩ ⟨by decide, by decide⟩ ⟨Nat.le_refl _, Nat.le_refl _⟩ hl.1 rfl (Nat.le_of_ble_eq_true rfl) d_M_fits_21 ?_
          refine lv_if_eq (tgt := 75) hx hb d_M_fits_24 rfl (fun hc => ?_) (fun hc => ?_)
          · have hf := ite_t hc hf
            exact K75 v5 _  (lv_sub hl [0, 1, 2, 3, 5] rfl) hf
          · have hf := ite_f hc hf
            refine lv_aload_n hx hb d_M_fits_27 rfl (lv_at hl 0 rfl) ?_
            refine xr_getr hx hb hT hown hK hP sM_0 rfl inM 1 (by decide) wf_M_7 rfl d_M_fits_28 ?_
            refine lv_iload hx hb d_M_fits_31 (lv_at hl 5 rfl) ?_
            obtain ⟨g16, hf⟩ := xgd_some hf
            refine xr_iald hx hb hK hP sM_1 g16 d_M_fits_33 ?_
            refine lv_if_le (tgt := 79) hx hb d_M_fits_34 rfl (fun hc => ?_) (fun hc => ?_)
            · have hf := ite_t hc hf
              exact K79 v5 _  (lv_sub hl [0, 1, 2, 3, 5] rfl) hf
            · have hf := ite_f hc hf
              refine lv_aload_n hx hb d_M_fits_37 rfl (lv_at hl 0 rfl) ?_
              refine xr_getr hx hb hT hown hK hP sM_0 rfl inM 2 (by decide) wf_M_13 rfl d_M_fits_38 ?_
              refine lv_iload_n hx hb d_M_fits_41 rfl (lv_at hl 1 rfl) ?_
              obtain ⟨g17, hf⟩ := xgd_some hf
              refine xr_iald hx hb hK hP sM_2 g17 d_M_fits_42 ?_
              refine lv_aload_n hx hb d_M_fits_43 rfl (lv_at hl 0 rfl) ?_
              refine xr_getr hx hb hT hown hK hP sM_0 rfl inM 1 (by decide) wf_M_7 rfl d_M_fits_44 ?_
              refine lv_iload hx hb d_M_fits_47 (lv_at hl 5 rfl) ?_
              obtain ⟨g18, hf⟩ := xgd_some hf
              refine xr_iald hx hb hK hP sM_1 g18 d_M_fits_49 ?_
              refine lv_icmp_lt (tgt := 79) hx hb d_M_fits_50 rfl (fun hc => ?_) (fun hc => ?_)
              · have hf := ite_t hc hf
                exact K79 v5 _  (lv_sub hl [0, 1, 2, 3, 5] rfl) hf
              · have hf := ite_f hc hf
                refine lv_aload_n hx hb d_M_fits_53 rfl (lv_at hl 0 rfl) ?_
                refine xr_getr hx hb hT hown hK hP sM_0 rfl inM 3 (by decide) wf_M_16 rfl d_M_fits_54 ?_
                refine lv_iload hx hb d_M_fits_57 (lv_at hl 5 rfl) ?_
                obtain ⟨g19, hf⟩ := xgd_some hf
                refine xr_iald hx hb hK hP sM_3 g19 d_M_fits_59 ?_
                refine lv_iconst (v := (-1)) hx hb d_M_fits_60 rfl ?_
                refine lv_icmp_eq (tgt := 75) hx hb d_M_fits_61 rfl (fun hc => ?_) (fun hc => ?_)
                · have hf := ite_t hc hf
                  exact K75 v5 _  (lv_sub hl [0, 1, 2, 3, 5] rfl) hf
                · have hf := ite_f hc hf
                  refine lv_aload_n hx hb d_M_fits_64 rfl (lv_at hl 0 rfl) ?_
                  refine xr_getr hx hb hT hown hK hP sM_0 rfl inM 3 (by decide) wf_M_16 rfl d_M_fits_65 ?_
                  refine lv_iload hx hb d_M_fits_68 (lv_at hl 5 rfl) ?_
                  obtain ⟨g20, hf⟩ := xgd_some hf
                  refine xr_iald hx hb hK hP sM_3 g20 d_M_fits_70 ?_
                  refine lv_iload_n hx hb d_M_fits_71 rfl (lv_at hl 1 rfl) ?_
                  refine lv_icmp_ne (tgt := 79) hx hb d_M_fits_72 rfl (fun hc => ?_) (fun hc => ?_)
                  · have hf := ite_f hc hf
                    exact K79 v5 _  (lv_sub hl [0, 1, 2, 3, 5] rfl) hf
                  · have hf := ite_t hc hf
                    exact K75 v5 _  (lv_sub hl [0, 1, 2, 3, 5] rfl) hf
  exact LH6 n6 1 0 _ (lv_sub hl [2, 3, 4, 5, 1, 0] rfl) hq6
noncomputable def fM_keeps_64 (v3 : Int32) (M : Mem) : Option (Int32) := xgd (v3 = 0 ∨ v3 = 1) (some v3)
noncomputable def fM_keeps_57 (v1 v2 v4 s57_0 : Int32) (M : Mem) : Option ((Int32 × Int32) ⊕ (Int32 × Int32)) := xlt (v4 + 1) (fun x2 => some (.inr (s57_0, x2)))
noncomputable def fM_keeps_56 (v1 v2 v4 : Int32) (M : Mem) : Option ((Int32 × Int32) ⊕ (Int32 × Int32)) := fM_keeps_57 v1 v2 v4 0 M
noncomputable def fM_keeps_52 (v1 v2 v4 : Int32) (M : Mem) : Option ((Int32 × Int32) ⊕ (Int32 × Int32)) := fM_keeps_57 v1 v2 v4 1 M
noncomputable def fM_keeps_49 (v1 v2 v4 s49_0 s49_1 : Int32) (M : Mem) : Option ((Int32 × Int32) ⊕ (Int32 × Int32)) := if s49_1 = s49_0 then (fM_keeps_52 v1 v2 v4 M) else (fM_keeps_56 v1 v2 v4 M)
noncomputable def gM_keeps_5 (v1 v2 : Int32) (M : Mem) (v3 v4 : Int32) : Option ((Int32 × Int32) ⊕ (Int32 × Int32)) := if 9 ≤ v4 then (some (.inl (v3, v4))) else (if v3 = 0 then (fM_keeps_56 v1 v2 v4 M) else (xgd (vp_in v4 9) (if (M 9 v4.toNatClampNeg) = (-1) then (fM_keeps_52 v1 v2 v4 M) else (xbd (fM_has v2 v4) (fun r4 => xgd (vp_in v4 9) (if (M 9 v4.toNatClampNeg) = v1 then (fM_keeps_49 v1 v2 v4 1 r4 M) else (fM_keeps_49 v1 v2 v4 0 r4 M)))))))
noncomputable def bM_keeps_5 (v1 v2 : Int32) (M : Mem) : Int32 × Int32 → Option ((Int32 × Int32) ⊕ (Int32 × Int32)) := fun st => gM_keeps_5 v1 v2 M st.1 st.2
noncomputable def fM_keeps (a1 a2 : Int32) (M : Mem) : Option (Int32) := xbd (xlp (bM_keeps_5 a1 a2 M) (1, 0)) (fun e5 => fM_keeps_64 e5.1 M)
set_option maxHeartbeats 4000000 in
set_option maxRecDepth 100000 in
theorem tM_keeps (l : Launch) (G : va_G) (c3 : ClassId × ClassId × ClassId) (ad : Nat → Nat) (M : Mem) (a1 a2 : Int32) (out : Int32) (hf : fM_keeps a1 a2 M = some out) : RMet l yM_keeps cM_keeps 5 (some .boolean) (rm0_ 1 21) G kl SM c3 ad M [.ref (ad 0), .int a1, .int a2] out := by
  refine RMet.of (by decide +kernel) (Nat.le_of_ble_eq_true rfl) (fun p e s m args below meth c ls F hT hK hP hr hlk hl => ?_)
  have hx := F.1
  have hb := F.2.1
  have F : CallFix p m c cM_keeps 5 s args gw RM := F
  have hown := F.2.2.2.1
  have hl : lv_has ls 5 [(0, .ref (ad 0)), (1, .int a1), (2, .int a2)] := hl
  have K64 : ∀ (v3 : Int32) (ls : Array Slot), lv_has ls 5 [(3, .int v3)] → fM_keeps_64 v3 M = some out → W p l e (rm0_ 1 21) s m args below meth c s.heap [] 0 0 (MQ below (QcRead out) args s 0 0 (fun _ => False)) (F0 m 64 ls []) := by
    intro v3 ls  hl hf
    unfold fM_keeps_64 at hf
    refine lv_iload_n hx hb d_M_keeps_64 rfl (lv_at hl 0 rfl) ?_
    obtain ⟨z1, hf⟩ := xgd_some hf
    exact xr_zret hx hb hr hlk z1 (Option.some.inj hf) d_M_keeps_65
  unfold fM_keeps at hf
  refine lv_iconst (v := 1) hx hb d_M_keeps_0 rfl ?_
  refine lv_istore_n (lv' := [(3, .int 1), (0, .ref (ad 0)), (1, .int a1), (2, .int a2)]) hx hb d_M_keeps_1 rfl hl (by decide) rfl (fun ls hl => ?_)
  refine lv_iconst (v := 0) hx hb d_M_keeps_2 rfl ?_
  refine lv_istore (lv' := [(4, .int 0), (3, .int 1), (0, .ref (ad 0)), (1, .int a1), (2, .int a2)]) hx hb d_M_keeps_3 hl (by decide) rfl (fun ls hl => ?_)
  obtain ⟨e5, he5, hk5⟩ := xbd_some hf
  obtain ⟨n5, hq5⟩ := xlp_n he5
  have LH5 : ∀ (n : Nat) (v3 v4 : Int32) (ls : Array Slot), lv_has ls 5 [(0, .ref (ad 0)), (1, .int a1), (2, .int a2), (3, .int v3), (4, .int v4)] → xwh (bM_keeps_5 a1 a2 M) n (v3, v4) = some e5 → W p l e (rm0_ 1 21) s m args below meth c s.heap [] 0 0 (MQ below (QcRead out) args s 0 0 (fun _ => False)) (F0 m 5 ls []) := by
    intro n
    induction n with
    | zero =>
      intro v3 v4 ls hl hn
      exact xwh_0 hn
    | succ n ih5 =>
      intro v3 v4 ls hl hn5
      obtain ⟨o5, hf, hn5⟩ := xwh_s hn5
      have hf : gM_keeps_5 a1 a2 M v3 v4 = some o5 := hf
      have K57 : ∀ (v4 s57_0 : Int32) (ls : Array Slot), lv_has ls 5 [(0, .ref (ad 0)), (1, .int a1), (2, .int a2), (4, .int v4)] → fM_keeps_57 a1 a2 v4 s57_0 M = some o5 → W p l e (rm0_ 1 21) s m args below meth c s.heap [] 0 0 (MQ below (QcRead out) args s 0 0 (fun _ => False)) (F0 m 57 ls [.int s57_0]) := by
        intro v4 s57_0 ls  hl hf
        unfold fM_keeps_57 at hf
        refine lv_istore_n (lv' := [(3, .int s57_0), (0, .ref (ad 0)), (1, .int a1), (2, .int a2), (4, .int v4)]) hx hb d_M_keeps_57 rfl hl (by decide) rfl (fun ls hl => ?_)
        obtain ⟨x2, hx2, hf⟩ := xlt_some hf
        refine lv_iinc (k := 4) (lv' := [(4, .int x2), (3, .int s57_0), (0, .ref (ad 0)), (1, .int a1), (2, .int a2)]) hx hb d_M_keeps_58 hl rfl hx2 (by decide) rfl (fun ls hl => ?_)
        refine lv_goto (tgt := 5) hx hb d_M_keeps_61 rfl ?_
        exact ih5 s57_0 x2 _ (lv_sub hl [2, 3, 4, 1, 0] rfl) (xw_again hf hn5)
      have K56 : ∀ (v4 : Int32) (ls : Array Slot), lv_has ls 5 [(0, .ref (ad 0)), (1, .int a1), (2, .int a2), (4, .int v4)] → fM_keeps_56 a1 a2 v4 M = some o5 → W p l e (rm0_ 1 21) s m args below meth c s.heap [] 0 0 (MQ below (QcRead out) args s 0 0 (fun _ => False)) (F0 m 56 ls []) := by
        intro v4 ls  hl hf
        unfold fM_keeps_56 at hf
        refine lv_iconst (v := 0) hx hb d_M_keeps_56 rfl ?_
        exact K57 v4 0 _  hl hf
      have K52 : ∀ (v4 : Int32) (ls : Array Slot), lv_has ls 5 [(0, .ref (ad 0)), (1, .int a1), (2, .int a2), (4, .int v4)] → fM_keeps_52 a1 a2 v4 M = some o5 → W p l e (rm0_ 1 21) s m args below meth c s.heap [] 0 0 (MQ below (QcRead out) args s 0 0 (fun _ => False)) (F0 m 52 ls []) := by
        intro v4 ls  hl hf
        unfold fM_keeps_52 at hf
        refine lv_iconst (v := 1) hx hb d_M_keeps_52 rfl ?_
        refine lv_goto (tgt := 57) hx hb d_M_keeps_53 rfl ?_
        exact K57 v4 1 _  hl hf
      have K49 : ∀ (v4 s49_0 s49_1 : Int32) (ls : Array Slot), lv_has ls 5 [(0, .ref (ad 0)), (1, .int a1), (2, .int a2), (4, .int v4)] → fM_keeps_49 a1 a2 v4 s49_0 s49_1 M = some o5 → W p l e (rm0_ 1 21) s m args below meth c s.heap [] 0 0 (MQ below (QcRead out) args s 0 0 (fun _ => False)) (F0 m 49 ls [.int s49_0, .int s49_1]) := by
        intro v4 s49_0 s49_1 ls  hl hf
        unfold fM_keeps_49 at hf
        refine lv_icmp_ne (tgt := 56) hx hb d_M_keeps_49 rfl (fun hc => ?_) (fun hc => ?_)
        · have hf := ite_f hc hf
          exact K56 v4 _  hl hf
        · have hf := ite_t hc hf
          exact K52 v4 _  hl hf
      unfold gM_keeps_5 at hf
      refine lv_iload hx hb d_M_keeps_5 (lv_at hl 4 rfl) ?_
      refine lv_bipush (v := 9) hx hb d_M_keeps_7 rfl ?_
      refine lv_icmp_ge (tgt := 64) hx hb d_M_keeps_9 rfl (fun hc => ?_) (fun hc => ?_)
      · have hf := ite_t hc hf
        have he := xw_exit hf hn5
        subst he
        have hf := hk5
        exact K64 v3 _  (lv_sub hl [3] rfl) hf
      · have hf := ite_f hc hf
        refine lv_iload_n hx hb d_M_keeps_12 rfl (lv_at hl 3 rfl) ?_
        refine lv_if_eq (tgt := 56) hx hb d_M_keeps_13 rfl (fun hc => ?_) (fun hc => ?_)
        · have hf := ite_t hc hf
          exact K56 v4 _  (lv_sub hl [0, 1, 2, 4] rfl) hf
        · have hf := ite_f hc hf
          refine lv_aload_n hx hb d_M_keeps_16 rfl (lv_at hl 0 rfl) ?_
          refine xr_getr hx hb hT hown hK hP sM_0 rfl inM 10 (by decide) wf_M_35 rfl d_M_keeps_17 ?_
          refine lv_iload hx hb d_M_keeps_20 (lv_at hl 4 rfl) ?_
          obtain ⟨g3, hf⟩ := xgd_some hf
          refine xr_iald hx hb hK hP sM_9 g3 d_M_keeps_22 ?_
          refine lv_iconst (v := (-1)) hx hb d_M_keeps_23 rfl ?_
          refine lv_icmp_eq (tgt := 52) hx hb d_M_keeps_24 rfl (fun hc => ?_) (fun hc => ?_)
          · have hf := ite_t hc hf
            exact K52 v4 _  (lv_sub hl [0, 1, 2, 4] rfl) hf
          · have hf := ite_f hc hf
            refine lv_iload_n hx hb d_M_keeps_27 rfl (lv_at hl 2 rfl) ?_
            refine lv_iload hx hb d_M_keeps_28 (lv_at hl 4 rfl) ?_
            obtain ⟨r4, hr4, hf⟩ := xbd_some hf
            refine xc_rs (rest := []) F hT hK hP (tM_has l G c3 ad M a2 v4 r4 hr4) wl_M_114 ws_M_has wn_M wc_M_has ck_M_has ⟨rfl, rfl⟩ ⟨by decide, by decide⟩ ⟨Nat.le_refl _, Nat.le_refl _⟩ hl.1 rfl (Nat.le_of_ble_eq_true rfl) d_M_keeps_30 ?_
            refine lv_aload_n hx hb d_M_keeps_33 rfl (lv_at hl 0 rfl) ?_
            refine xr_getr hx hb hT hown hK hP sM_0 rfl inM 10 (by decide) wf_M_35 rfl d_M_keeps_34 ?_
            refine lv_iload hx hb d_M_keeps_37 (lv_at hl 4 rfl) ?_
            obtain ⟨g5, hf⟩ := xgd_some hf
            refine xr_iald hx hb hK hP sM_9 g5 d_M_keeps_39 ?_
            refine lv_iload_n hx hb d_M_keeps_40 rfl (lv_at hl 1 rfl) ?_
            refine lv_icmp_ne (tgt := 48) hx hb d_M_keeps_41 rfl (fun hc => ?_) (fun hc => ?_)
            · have hf := ite_f hc hf
              refine lv_iconst (v := 0) hx hb d_M_keeps_48 rfl ?_
              exact K49 v4 0 r4 _  (lv_sub hl [0, 1, 2, 4] rfl) hf
            · have hf := ite_t hc hf
              refine lv_iconst (v := 1) hx hb d_M_keeps_44 rfl ?_
              refine lv_goto (tgt := 49) hx hb d_M_keeps_45 rfl ?_
              exact K49 v4 1 r4 _  (lv_sub hl [0, 1, 2, 4] rfl) hf
  exact LH5 n5 1 0 _ (lv_sub hl [2, 3, 4, 1, 0] rfl) hq5
noncomputable def fM_follows_133 (v4 : Int32) (M : Mem) : Option (Int32) := xgd (v4 = 0 ∨ v4 = 1) (some v4)
noncomputable def fM_follows_127 (v1 v2 v3 v4 v5 : Int32) (M : Mem) : Option ((Int32 × Int32) ⊕ (Int32 × Int32)) := xlt (v5 + 1) (fun x2 => some (.inr (v4, x2)))
noncomputable def fM_follows_119 (v1 v2 v3 v5 v6 s119_0 : Int32) (M : Mem) : Option ((Int32 × Int32) ⊕ (Int32 × Int32)) := xlt (v6 + 1) (fun x3 => some (.inr (s119_0, x3)))
noncomputable def fM_follows_118 (v1 v2 v3 v5 v6 : Int32) (M : Mem) : Option ((Int32 × Int32) ⊕ (Int32 × Int32)) := fM_follows_119 v1 v2 v3 v5 v6 0 M
noncomputable def fM_follows_114 (v1 v2 v3 v5 v6 : Int32) (M : Mem) : Option ((Int32 × Int32) ⊕ (Int32 × Int32)) := fM_follows_119 v1 v2 v3 v5 v6 1 M
noncomputable def fM_follows_85 (v1 v2 v3 v5 v6 : Int32) (M : Mem) : Option ((Int32 × Int32) ⊕ (Int32 × Int32)) := xlt (((162 + (9 * v5)) + v6)) (fun x4 => xgd (vp_in x4 243) (if (M 6 x4.toNatClampNeg) = 0 then (fM_follows_114 v1 v2 v3 v5 v6 M) else (xbd (fM_has v2 v6) (fun r6 => if r6 = 0 then (fM_follows_114 v1 v2 v3 v5 v6 M) else (fM_follows_118 v1 v2 v3 v5 v6 M)))))
noncomputable def gM_follows_26 (v1 v2 v3 v5 : Int32) (M : Mem) (v4 v6 : Int32) : Option ((Int32 × Int32) ⊕ (Int32 × Int32)) := if 9 ≤ v6 then (some (.inl (v4, v6))) else (if v4 = 0 then (some (.inl (v4, v6))) else (xbd (fM_has v1 v5) (fun r7 => if r7 = 0 then (some (.inl (v4, v6))) else (xlt (((162 + (9 * v6)) + v5)) (fun x8 => xgd (vp_in x8 243) (if (M 6 x8.toNatClampNeg) = 0 then (fM_follows_85 v1 v2 v3 v5 v6 M) else (xbd (fM_has v3 v6) (fun r10 => if r10 = 0 then (fM_follows_85 v1 v2 v3 v5 v6 M) else (xbd (fM_has v2 v6) (fun r11 => if r11 = 0 then (fM_follows_118 v1 v2 v3 v5 v6 M) else (fM_follows_85 v1 v2 v3 v5 v6 M)))))))))))
noncomputable def bM_follows_26 (v1 v2 v3 v5 : Int32) (M : Mem) : Int32 × Int32 → Option ((Int32 × Int32) ⊕ (Int32 × Int32)) := fun st => gM_follows_26 v1 v2 v3 v5 M st.1 st.2
noncomputable def gM_follows_16 (v1 v2 v3 : Int32) (M : Mem) (v4 v5 : Int32) : Option ((Int32 × Int32) ⊕ (Int32 × Int32)) := if 9 ≤ v5 then (some (.inl (v4, v5))) else (xbd (xlp (bM_follows_26 v1 v2 v3 v5 M) (v4, 0)) (fun e26 => fM_follows_127 v1 v2 v3 e26.1 v5 M))
noncomputable def bM_follows_16 (v1 v2 v3 : Int32) (M : Mem) : Int32 × Int32 → Option ((Int32 × Int32) ⊕ (Int32 × Int32)) := fun st => gM_follows_16 v1 v2 v3 M st.1 st.2
noncomputable def fM_follows_11 (v1 v2 v3 s11_0 : Int32) (M : Mem) : Option (Int32) := xbd (xlp (bM_follows_16 v1 v2 v3 M) (s11_0, 0)) (fun e16 => fM_follows_133 e16.1 M)
noncomputable def fM_follows (a1 a2 a3 : Int32) (M : Mem) : Option (Int32) := if (a1 &&& a2) = 0 then (fM_follows_11 a1 a2 a3 1 M) else (fM_follows_11 a1 a2 a3 0 M)
set_option maxHeartbeats 4000000 in
set_option maxRecDepth 100000 in
theorem tM_follows (l : Launch) (G : va_G) (c3 : ClassId × ClassId × ClassId) (ad : Nat → Nat) (M : Mem) (a1 a2 a3 : Int32) (out : Int32) (hf : fM_follows a1 a2 a3 M = some out) : RMet l yM_follows cM_follows 7 (some .boolean) (rm0_ 1 21) G kl SM c3 ad M [.ref (ad 0), .int a1, .int a2, .int a3] out := by
  refine RMet.of (by decide +kernel) (Nat.le_of_ble_eq_true rfl) (fun p e s m args below meth c ls F hT hK hP hr hlk hl => ?_)
  have hx := F.1
  have hb := F.2.1
  have F : CallFix p m c cM_follows 7 s args gw RM := F
  have hown := F.2.2.2.1
  have hl : lv_has ls 7 [(0, .ref (ad 0)), (1, .int a1), (2, .int a2), (3, .int a3)] := hl
  have K133 : ∀ (v4 : Int32) (ls : Array Slot), lv_has ls 7 [(4, .int v4)] → fM_follows_133 v4 M = some out → W p l e (rm0_ 1 21) s m args below meth c s.heap [] 0 0 (MQ below (QcRead out) args s 0 0 (fun _ => False)) (F0 m 133 ls []) := by
    intro v4 ls  hl hf
    unfold fM_follows_133 at hf
    refine lv_iload hx hb d_M_follows_133 (lv_at hl 0 rfl) ?_
    obtain ⟨z1, hf⟩ := xgd_some hf
    exact xr_zret hx hb hr hlk z1 (Option.some.inj hf) d_M_follows_135
  have K11 : ∀ (v1 v2 v3 s11_0 : Int32) (ls : Array Slot), lv_has ls 7 [(0, .ref (ad 0)), (1, .int v1), (2, .int v2), (3, .int v3)] → fM_follows_11 v1 v2 v3 s11_0 M = some out → W p l e (rm0_ 1 21) s m args below meth c s.heap [] 0 0 (MQ below (QcRead out) args s 0 0 (fun _ => False)) (F0 m 11 ls [.int s11_0]) := by
    intro v1 v2 v3 s11_0 ls  hl hf
    unfold fM_follows_11 at hf
    refine lv_istore (lv' := [(4, .int s11_0), (0, .ref (ad 0)), (1, .int v1), (2, .int v2), (3, .int v3)]) hx hb d_M_follows_11 hl (by decide) rfl (fun ls hl => ?_)
    refine lv_iconst (v := 0) hx hb d_M_follows_13 rfl ?_
    refine lv_istore (lv' := [(5, .int 0), (4, .int s11_0), (0, .ref (ad 0)), (1, .int v1), (2, .int v2), (3, .int v3)]) hx hb d_M_follows_14 hl (by decide) rfl (fun ls hl => ?_)
    obtain ⟨e16, he16, hk16⟩ := xbd_some hf
    obtain ⟨n16, hq16⟩ := xlp_n he16
    have LH16 : ∀ (n : Nat) (v4 v5 : Int32) (ls : Array Slot), lv_has ls 7 [(0, .ref (ad 0)), (1, .int v1), (2, .int v2), (3, .int v3), (4, .int v4), (5, .int v5)] → xwh (bM_follows_16 v1 v2 v3 M) n (v4, v5) = some e16 → W p l e (rm0_ 1 21) s m args below meth c s.heap [] 0 0 (MQ below (QcRead out) args s 0 0 (fun _ => False)) (F0 m 16 ls []) := by
      intro n
      induction n with
      | zero =>
        intro v4 v5 ls hl hn
        exact xwh_0 hn
      | succ n ih16 =>
        intro v4 v5 ls hl hn16
        obtain ⟨o16, hf, hn16⟩ := xwh_s hn16
        have hf : gM_follows_16 v1 v2 v3 M v4 v5 = some o16 := hf
        have K127 : ∀ (v4 v5 : Int32) (ls : Array Slot), lv_has ls 7 [(0, .ref (ad 0)), (1, .int v1), (2, .int v2), (3, .int v3), (4, .int v4), (5, .int v5)] → fM_follows_127 v1 v2 v3 v4 v5 M = some o16 → W p l e (rm0_ 1 21) s m args below meth c s.heap [] 0 0 (MQ below (QcRead out) args s 0 0 (fun _ => False)) (F0 m 127 ls []) := by
          intro v4 v5 ls  hl hf
          unfold fM_follows_127 at hf
          obtain ⟨x2, hx2, hf⟩ := xlt_some hf
          refine lv_iinc (k := 5) (lv' := [(5, .int x2), (0, .ref (ad 0)), (1, .int v1), (2, .int v2), (3, .int v3), (4, .int v4)]) hx hb d_M_follows_127 hl rfl hx2 (by decide) rfl (fun ls hl => ?_)
          refine lv_goto (tgt := 16) hx hb d_M_follows_130 rfl ?_
          exact ih16 v4 x2 _ (lv_sub hl [1, 2, 3, 4, 5, 0] rfl) (xw_again hf hn16)
        unfold gM_follows_16 at hf
        refine lv_iload hx hb d_M_follows_16 (lv_at hl 5 rfl) ?_
        refine lv_bipush (v := 9) hx hb d_M_follows_18 rfl ?_
        refine lv_icmp_ge (tgt := 133) hx hb d_M_follows_20 rfl (fun hc => ?_) (fun hc => ?_)
        · have hf := ite_t hc hf
          have he := xw_exit hf hn16
          subst he
          have hf := hk16
          exact K133 v4 _  (lv_sub hl [4] rfl) hf
        · have hf := ite_f hc hf
          refine lv_iconst (v := 0) hx hb d_M_follows_23 rfl ?_
          refine lv_istore (lv' := [(6, .int 0), (0, .ref (ad 0)), (1, .int v1), (2, .int v2), (3, .int v3), (4, .int v4), (5, .int v5)]) hx hb d_M_follows_24 hl (by decide) rfl (fun ls hl => ?_)
          obtain ⟨e26, he26, hk26⟩ := xbd_some hf
          obtain ⟨n26, hq26⟩ := xlp_n he26
          have LH26 : ∀ (n : Nat) (v4 v6 : Int32) (ls : Array Slot), lv_has ls 7 [(0, .ref (ad 0)), (1, .int v1), (2, .int v2), (3, .int v3), (4, .int v4), (5, .int v5), (6, .int v6)] → xwh (bM_follows_26 v1 v2 v3 v5 M) n (v4, v6) = some e26 → W p l e (rm0_ 1 21) s m args below meth c s.heap [] 0 0 (MQ below (QcRead out) args s 0 0 (fun _ => False)) (F0 m 26 ls []) := by
            intro n
            induction n with
            | zero =>
              intro v4 v6 ls hl hn
              exact xwh_0 hn
            | succ n ih26 =>
              intro v4 v6 ls hl hn26
              obtain ⟨o26, hf, hn26⟩ := xwh_s hn26
              have hf : gM_follows_26 v1 v2 v3 v5 M v4 v6 = some o26 := hf
              have K119 : ∀ (v6 s119_0 : Int32) (ls : Array Slot), lv_has ls 7 [(0, .ref (ad 0)), (1, .int v1), (2, .int v2), (3, .int v3), (5, .int v5), (6, .int v6)] → fM_follows_119 v1 v2 v3 v5 v6 s119_0 M = some o26 → W p l e (rm0_ 1 21) s m args below meth c s.heap [] 0 0 (MQ below (QcRead out) args s 0 0 (fun _ => False)) (F0 m 119 ls [.int s119_0]) := by
                intro v6 s119_0 ls  hl hf
                unfold fM_follows_119 at hf
                refine lv_istore (lv' := [(4, .int s119_0), (0, .ref (ad 0)), (1, .int v1), (2, .int v2), (3, .int v3), (5, .int v5), (6, .int v6)]) hx hb d_M_follows_119 hl (by decide) rfl (fun ls hl => ?_)
                obtain ⟨x3, hx3, hf⟩ := xlt_some hf
                refine lv_iinc (k := 6) (lv' := [(6, .int x3), (4, .int s119_0), (0, .ref (ad 0)), (1, .int v1), (2, .int v2), (3, .int v3), (5, .int v5)]) hx hb d_M_follows_121 hl rfl hx3 (by decide) rfl (fun ls hl => ?_)
                refine lv_goto (tgt := 26) hx hb d_M_follows_124 rfl ?_
                exact ih26 s119_0 x3 _ (lv_sub hl [2, 3, 4, 5, 1, 6, 0] rfl) (xw_again hf hn26)
              have K118 : ∀ (v6 : Int32) (ls : Array Slot), lv_has ls 7 [(0, .ref (ad 0)), (1, .int v1), (2, .int v2), (3, .int v3), (5, .int v5), (6, .int v6)] → fM_follows_118 v1 v2 v3 v5 v6 M = some o26 → W p l e (rm0_ 1 21) s m args below meth c s.heap [] 0 0 (MQ below (QcRead out) args s 0 0 (fun _ => False)) (F0 m 118 ls []) := by
                intro v6 ls  hl hf
                unfold fM_follows_118 at hf
                refine lv_iconst (v := 0) hx hb d_M_follows_118 rfl ?_
                exact K119 v6 0 _  hl hf
              have K114 : ∀ (v6 : Int32) (ls : Array Slot), lv_has ls 7 [(0, .ref (ad 0)), (1, .int v1), (2, .int v2), (3, .int v3), (5, .int v5), (6, .int v6)] → fM_follows_114 v1 v2 v3 v5 v6 M = some o26 → W p l e (rm0_ 1 21) s m args below meth c s.heap [] 0 0 (MQ below (QcRead out) args s 0 0 (fun _ => False)) (F0 m 114 ls []) := by
                intro v6 ls  hl hf
                unfold fM_follows_114 at hf
                refine lv_iconst (v := 1) hx hb d_M_follows_114 rfl ?_
                refine lv_goto (tgt := 119) hx hb d_M_follows_115 rfl ?_
                exact K119 v6 1 _  hl hf
              have K85 : ∀ (v6 : Int32) (ls : Array Slot), lv_has ls 7 [(0, .ref (ad 0)), (1, .int v1), (2, .int v2), (3, .int v3), (5, .int v5), (6, .int v6)] → fM_follows_85 v1 v2 v3 v5 v6 M = some o26 → W p l e (rm0_ 1 21) s m args below meth c s.heap [] 0 0 (MQ below (QcRead out) args s 0 0 (fun _ => False)) (F0 m 85 ls []) := by
                intro v6 ls  hl hf
                unfold fM_follows_85 at hf
                refine lv_aload_n hx hb d_M_follows_85 rfl (lv_at hl 0 rfl) ?_
                refine xr_getr hx hb hT hown hK hP sM_0 rfl inM 6 (by decide) wf_M_26 rfl d_M_follows_86 ?_
                refine lv_sipush (v := 162) hx hb d_M_follows_89 rfl ?_
                refine lv_bipush (v := 9) hx hb d_M_follows_92 rfl ?_
                refine lv_iload hx hb d_M_follows_94 (lv_at hl 4 rfl) ?_
                refine lv_imul hx hb d_M_follows_96 ?_
                refine lv_iadd hx hb d_M_follows_97 ?_
                refine lv_iload hx hb d_M_follows_98 (lv_at hl 5 rfl) ?_
                refine lv_iadd hx hb d_M_follows_100 ?_
                obtain ⟨x4, hx4, hf⟩ := xlt_some hf
                refine xr_name hx4 ?_
                obtain ⟨g5, hf⟩ := xgd_some hf
                refine xr_zald hx hb hK hP sM_6 g5 d_M_follows_101 ?_
                refine lv_if_eq (tgt := 114) hx hb d_M_follows_102 rfl (fun hc => ?_) (fun hc => ?_)
                · have hf := ite_t hc hf
                  exact K114 v6 _  hl hf
                · have hf := ite_f hc hf
                  refine lv_iload_n hx hb d_M_follows_105 rfl (lv_at hl 2 rfl) ?_
                  refine lv_iload hx hb d_M_follows_106 (lv_at hl 5 rfl) ?_
                  obtain ⟨r6, hr6, hf⟩ := xbd_some hf
                  refine xc_rs (rest := []) F hT hK hP (tM_has l G c3 ad M v2 v6 r6 hr6) wl_M_114 ws_M_has wn_M wc_M_has ck_M_has ⟨rfl, rfl⟩ ⟨by decide, by decide⟩ ⟨Nat.le_refl _, Nat.le_refl _⟩ hl.1 rfl (Nat.le_of_ble_eq_true rfl) d_M_follows_108 ?_
                  refine lv_if_ne (tgt := 118) hx hb d_M_follows_111 rfl (fun hc => ?_) (fun hc => ?_)
                  · have hf := ite_f hc hf
                    exact K118 v6 _  hl hf
                  · have hf := ite_t hc hf
                    exact K114 v6 _  hl hf
              unfold gM_follows_26 at hf
              refine lv_iload hx hb d_M_follows_26 (lv_at hl 6 rfl) ?_
              refine lv_bipush (v := 9) hx hb d_M_follows_28 rfl ?_
              refine lv_icmp_ge (tgt := 127) hx hb d_M_follows_30 rfl (fun hc => ?_) (fun hc => ?_)
              · have hf := ite_t hc hf
                have he := xw_exit hf hn26
                subst he
                have hf := hk26
                exact K127 v4 v5 _  (lv_sub hl [0, 1, 2, 3, 4, 5] rfl) hf
              · have hf := ite_f hc hf
                refine lv_iload hx hb d_M_follows_33 (lv_at hl 4 rfl) ?_
                refine lv_if_eq (tgt := 127) hx hb d_M_follows_35 rfl (fun hc => ?_) (fun hc => ?_)
                · have hf := ite_t hc hf
                  have he := xw_exit hf hn26
                  subst he
                  have hf := hk26
                  exact K127 v4 v5 _  (lv_sub hl [0, 1, 2, 3, 4, 5] rfl) hf
                · have hf := ite_f hc hf
                  refine lv_iload_n hx hb d_M_follows_38 rfl (lv_at hl 1 rfl) ?_
                  refine lv_iload hx hb d_M_follows_39 (lv_at hl 5 rfl) ?_
                  obtain ⟨r7, hr7, hf⟩ := xbd_some hf
                  refine xc_rs (rest := []) F hT hK hP (tM_has l G c3 ad M v1 v5 r7 hr7) wl_M_114 ws_M_has wn_M wc_M_has ck_M_has ⟨rfl, rfl⟩ ⟨by decide, by decide⟩ ⟨Nat.le_refl _, Nat.le_refl _⟩ hl.1 rfl (Nat.le_of_ble_eq_true rfl) d_M_follows_41 ?_
                  refine lv_if_eq (tgt := 127) hx hb d_M_follows_44 rfl (fun hc => ?_) (fun hc => ?_)
                  · have hf := ite_t hc hf
                    have he := xw_exit hf hn26
                    subst he
                    have hf := hk26
                    exact K127 v4 v5 _  (lv_sub hl [0, 1, 2, 3, 4, 5] rfl) hf
                  · have hf := ite_f hc hf
                    refine lv_aload_n hx hb d_M_follows_47 rfl (lv_at hl 0 rfl) ?_
                    refine xr_getr hx hb hT hown hK hP sM_0 rfl inM 6 (by decide) wf_M_26 rfl d_M_follows_48 ?_
                    refine lv_sipush (v := 162) hx hb d_M_follows_51 rfl ?_
                    refine lv_bipush (v := 9) hx hb d_M_follows_54 rfl ?_
                    refine lv_iload hx hb d_M_follows_56 (lv_at hl 6 rfl) ?_
                    refine lv_imul hx hb d_M_follows_58 ?_
                    refine lv_iadd hx hb d_M_follows_59 ?_
                    refine lv_iload hx hb d_M_follows_60 (lv_at hl 5 rfl) ?_
                    refine lv_iadd hx hb d_M_follows_62 ?_
                    obtain ⟨x8, hx8, hf⟩ := xlt_some hf
                    refine xr_name hx8 ?_
                    obtain ⟨g9, hf⟩ := xgd_some hf
                    refine xr_zald hx hb hK hP sM_6 g9 d_M_follows_63 ?_
                    refine lv_if_eq (tgt := 85) hx hb d_M_follows_64 rfl (fun hc => ?_) (fun hc => ?_)
                    · have hf := ite_t hc hf
                      exact K85 v6 _  (lv_sub hl [0, 1, 2, 3, 5, 6] rfl) hf
                    · have hf := ite_f hc hf
                      refine lv_iload_n hx hb d_M_follows_67 rfl (lv_at hl 3 rfl) ?_
                      refine lv_iload hx hb d_M_follows_68 (lv_at hl 6 rfl) ?_
                      obtain ⟨r10, hr10, hf⟩ := xbd_some hf
                      refine xc_rs (rest := []) F hT hK hP (tM_has l G c3 ad M v3 v6 r10 hr10) wl_M_114 ws_M_has wn_M wc_M_has ck_M_has ⟨rfl, rfl⟩ ⟨by decide, by decide⟩ ⟨Nat.le_refl _, Nat.le_refl _⟩ hl.1 rfl (Nat.le_of_ble_eq_true rfl) d_M_follows_70 ?_
                      refine lv_if_eq (tgt := 85) hx hb d_M_follows_73 rfl (fun hc => ?_) (fun hc => ?_)
                      · have hf := ite_t hc hf
                        exact K85 v6 _  (lv_sub hl [0, 1, 2, 3, 5, 6] rfl) hf
                      · have hf := ite_f hc hf
                        refine lv_iload_n hx hb d_M_follows_76 rfl (lv_at hl 2 rfl) ?_
                        refine lv_iload hx hb d_M_follows_77 (lv_at hl 6 rfl) ?_
                        obtain ⟨r11, hr11, hf⟩ := xbd_some hf
                        refine xc_rs (rest := []) F hT hK hP (tM_has l G c3 ad M v2 v6 r11 hr11) wl_M_114 ws_M_has wn_M wc_M_has ck_M_has ⟨rfl, rfl⟩ ⟨by decide, by decide⟩ ⟨Nat.le_refl _, Nat.le_refl _⟩ hl.1 rfl (Nat.le_of_ble_eq_true rfl) d_M_follows_79 ?_
                        refine lv_if_eq (tgt := 118) hx hb d_M_follows_82 rfl (fun hc => ?_) (fun hc => ?_)
                        · have hf := ite_t hc hf
                          exact K118 v6 _  (lv_sub hl [0, 1, 2, 3, 5, 6] rfl) hf
                        · have hf := ite_f hc hf
                          exact K85 v6 _  (lv_sub hl [0, 1, 2, 3, 5, 6] rfl) hf
          exact LH26 n26 v4 0 _ (lv_sub hl [1, 2, 3, 4, 5, 6, 0] rfl) hq26
    exact LH16 n16 s11_0 0 _ (lv_sub hl [2, 3, 4, 5, 1, 0] rfl) hq16
  unfold fM_follows at hf
  refine lv_iload_n hx hb d_M_follows_0 rfl (lv_at hl 1 rfl) ?_
  refine lv_iload_n hx hb d_M_follows_1 rfl (lv_at hl 2 rfl) ?_
  refine lv_iand hx hb d_M_follows_2 ?_
  refine lv_if_ne (tgt := 10) hx hb d_M_follows_3 rfl (fun hc => ?_) (fun hc => ?_)
  · have hf := ite_f hc hf
    refine lv_iconst (v := 0) hx hb d_M_follows_10 rfl ?_
    exact K11 a1 a2 a3 0 _  hl hf
  · have hf := ite_t hc hf
    refine lv_iconst (v := 1) hx hb d_M_follows_6 rfl ?_
    refine lv_goto (tgt := 11) hx hb d_M_follows_7 rfl ?_
    exact K11 a1 a2 a3 1 _  hl hf
noncomputable def fM_least_266 (M : Mem) : Option (Int32 × Mem) := xgd (vp_in 0 3584) (some ((M 8 (0 : Int32).toNatClampNeg), M))
noncomputable def fM_least_260 (v1 v2 : Int32) (M : Mem) : Option ((Int32 × Mem) ⊕ (Int32 × Mem)) := xlt (v2 + (-1)) (fun x2 => some (.inr (x2, M)))
noncomputable def fM_least_254 (v1 v2 v3 : Int32) (M : Mem) : Option ((Int32 × Mem) ⊕ (Int32 × Mem)) := xlt (v3 + 1) (fun x3 => some (.inr (x3, M)))
noncomputable def fM_least_240 (v1 v2 v3 v4 v5 s240_0 : Int32) (M : Mem) : Option ((Int32 × Int32 × Mem) ⊕ (Int32 × Int32 × Mem)) := xlt (((v5 - 1) &&& v4)) (fun x4 => some (.inr (x4, s240_0, M)))
noncomputable def fM_least_230 (v1 v2 v3 v4 v5 : Int32) (M : Mem) : Option ((Int32 × Int32 × Mem) ⊕ (Int32 × Int32 × Mem)) := if v5 ≤ 0 then (fM_least_240 v1 v2 v3 v4 v5 0 M) else (fM_least_240 v1 v2 v3 v4 v5 1 M)
noncomputable def fM_least_175 (v1 v2 v3 v4 v5 s175_0 s175_1 : Int32) (M : Mem) : Option ((Int32 × Int32 × Mem) ⊕ (Int32 × Int32 × Mem)) := xlt ((s175_1 + s175_0)) (fun x5 => xgd (vp_in v5 512) (if (M 11 v5.toNatClampNeg) = 0 then (fM_least_230 v1 v2 v3 v4 v5 M) else (xlt (((512 * v2) + v3)) (fun x7 => xgd (vp_in x7 3584) (if (M 8 x7.toNatClampNeg) ≤ x5 then (fM_least_230 v1 v2 v3 v4 v5 M) else (xbd (fM_follows v5 v3 v1 M) (fun r9 => if r9 = 0 then (fM_least_230 v1 v2 v3 v4 v5 M) else (xgd (vp_in ((512 * v2) + v3) 3584) (xlt (up2 M 8 (((512 * v2) + v3).toNatClampNeg) x5) (fun M11 => fM_least_230 v1 v2 v3 v4 v5 M11))))))))))
noncomputable def gM_least_141 (v1 v2 v3 v4 : Int32) (v5 v6 : Int32) (M : Mem) : Option ((Int32 × Int32 × Mem) ⊕ (Int32 × Int32 × Mem)) := if v6 = 0 then (some (.inl (v5, v6, M))) else (xlt ((((512 * v2) + 512) + (v3 ||| v5))) (fun x12 => xgd (vp_in x12 3584) (if v5 = 0 then (fM_least_175 v1 v2 v3 v4 v5 0 (M 8 x12.toNatClampNeg) M) else (fM_least_175 v1 v2 v3 v4 v5 1 (M 8 x12.toNatClampNeg) M))))
noncomputable def bM_least_141 (v1 v2 v3 v4 : Int32) : Int32 × Int32 × Mem → Option ((Int32 × Int32 × Mem) ⊕ (Int32 × Int32 × Mem)) := fun st => gM_least_141 v1 v2 v3 v4 st.1 st.2.1 st.2.2
noncomputable def fM_least_139 (v1 v2 v3 v4 v5 s139_0 : Int32) (M : Mem) : Option ((Int32 × Mem) ⊕ (Int32 × Mem)) := xbd (xlp (bM_least_141 v1 v2 v3 v4) (v5, s139_0, M)) (fun e141 => fM_least_254 v1 v2 v3 e141.2.2)
noncomputable def gM_least_94 (v1 v2 : Int32) (v3 : Int32) (M : Mem) : Option ((Int32 × Mem) ⊕ (Int32 × Mem)) := if 512 ≤ v3 then (some (.inl (v3, M))) else (xgd (vp_in ((512 * v2) + v3) 3584) (xlt (up2 M 8 (((512 * v2) + v3).toNatClampNeg) 99) (fun M25 => xlt ((v1 &&& (v3 ^^^ (-1)))) (fun x26 => if (v3 &&& (v1 ^^^ (-1))) = 0 then (fM_least_139 v1 v2 v3 x26 x26 1 M25) else (fM_least_139 v1 v2 v3 x26 x26 0 M25)))))
noncomputable def bM_least_94 (v1 v2 : Int32) : Int32 × Mem → Option ((Int32 × Mem) ⊕ (Int32 × Mem)) := fun st => gM_least_94 v1 v2 st.1 st.2
noncomputable def fM_least_92 (v1 v2 : Int32) (M : Mem) : Option ((Int32 × Mem) ⊕ (Int32 × Mem)) := xbd (xlp (bM_least_94 v1 v2) (0, M)) (fun e94 => fM_least_260 v1 v2 e94.2)
noncomputable def fM_least_85 (v1 v2 v3 s85_0 s85_1 : Int32) (M : Mem) : Option ((Int32 × Mem) ⊕ (Int32 × Mem)) := xgd (vp_in s85_1 512) (xlt (up2 M 11 s85_1.toNatClampNeg (vp_nar .boolean s85_0)) (fun M42 => xlt (v3 + 1) (fun x43 => some (.inr (x43, M42)))))
noncomputable def fM_least_84 (v1 v2 v3 s84_0 : Int32) (M : Mem) : Option ((Int32 × Mem) ⊕ (Int32 × Mem)) := fM_least_85 v1 v2 v3 0 s84_0 M
noncomputable def gM_least_44 (v1 v2 : Int32) (v3 : Int32) (M : Mem) : Option ((Int32 × Mem) ⊕ (Int32 × Mem)) := if 512 ≤ v3 then (some (.inl (v3, M))) else (xlt (((512 * v2) + v3)) (fun x44 => xgd (vp_in x44 3072) (if (M 10 x44.toNatClampNeg) = 0 then (fM_least_84 v1 v2 v3 v3 M) else (xbd (fM_keeps v2 v3 M) (fun r46 => if r46 = 0 then (fM_least_84 v1 v2 v3 v3 M) else (fM_least_85 v1 v2 v3 1 v3 M))))))
noncomputable def bM_least_44 (v1 v2 : Int32) : Int32 × Mem → Option ((Int32 × Mem) ⊕ (Int32 × Mem)) := fun st => gM_least_44 v1 v2 st.1 st.2
noncomputable def gM_least_38 (v1 : Int32) (v2 : Int32) (M : Mem) : Option ((Int32 × Mem) ⊕ (Int32 × Mem)) := if v2 < 0 then (some (.inl (v2, M))) else (xbd (xlp (bM_least_44 v1 v2) (0, M)) (fun e44 => fM_least_92 v1 v2 e44.2))
noncomputable def bM_least_38 (v1 : Int32) : Int32 × Mem → Option ((Int32 × Mem) ⊕ (Int32 × Mem)) := fun st => gM_least_38 v1 st.1 st.2
noncomputable def fM_least_36 (v1 : Int32) (M : Mem) : Option (Int32 × Mem) := xbd (xlp (bM_least_38 v1) (5, M)) (fun e38 => fM_least_266  e38.2)
noncomputable def fM_least_29 (v1 v2 s29_0 s29_1 : Int32) (M : Mem) : Option ((Int32 × Mem) ⊕ (Int32 × Mem)) := xgd (vp_in s29_1 3584) (xlt (up2 M 8 s29_1.toNatClampNeg s29_0) (fun M75 => xlt (v2 + 1) (fun x76 => some (.inr (x76, M75)))))
noncomputable def gM_least_2 (v1 : Int32) (v2 : Int32) (M : Mem) : Option ((Int32 × Mem) ⊕ (Int32 × Mem)) := if 512 ≤ v2 then (some (.inl (v2, M))) else (if v2 = v1 then (fM_least_29 v1 v2 0 (3072 + v2) M) else (fM_least_29 v1 v2 99 (3072 + v2) M))
noncomputable def bM_least_2 (v1 : Int32) : Int32 × Mem → Option ((Int32 × Mem) ⊕ (Int32 × Mem)) := fun st => gM_least_2 v1 st.1 st.2
noncomputable def fM_least (a1 : Int32) (M : Mem) : Option (Int32 × Mem) := xbd (xlp (bM_least_2 a1) (0, M)) (fun e2 => fM_least_36 a1 e2.2)
set_option maxHeartbeats 4000000 in
set_option maxRecDepth 100000 in
theorem tM_least (l : Launch) (G : va_G) (c3 : ClassId × ClassId × ClassId) (ad : Nat → Nat) (hd : adI SM ad) (M : Mem) (a1 : Int32) (o1 : Int32) (o2 : Mem) (hf : fM_least a1 M = some (o1, o2)) : WMet l yM_least cM_least 8 (some .int) (rm0_ 2 47) G kl SM c3 ad M [.ref (ad 0), .int a1] (some (.int o1)) o2 := by
  generalize hout : (o1, o2) = out at hf
  obtain rfl : out.1 = o1 := by rw [← hout]
  obtain rfl : out.2 = o2 := by rw [← hout]
  clear hout
  refine WMet.of (by decide +kernel) (Nat.le_of_ble_eq_true rfl) (fun p e s m args below meth c ls F hT hK hP hr hlk hl hS => ?_)
  have hx := F.1
  have hb := F.2.1
  have F : CallFix p m c cM_least 8 s args gw RM := F
  have hown := F.2.2.2.1
  have hl : lv_has ls 8 [(0, .ref (ad 0)), (1, .int a1)] := hl
  revert hP hS
  suffices hall : ∀ (H : Heap) (locs : List Loc), va_P G kl (wd SM c3 ad M) H → va_S (adA SM ad) s.heap H locs → W p l e (rm0_ 2 47) s m args below meth c H locs 0 0 (MQ below (QW G kl SM c3 ad (some (.int out.1)) out.2) args s 0 0 (adA SM ad)) (F0 m 0 ls []) from hall s.heap []
  intro H locs hP hS
  have K266 : ∀ (M : Mem) (H : Heap) (locs : List Loc) (ls : Array Slot), lv_has ls 8 [(0, .ref (ad 0))] → va_P G kl (wd SM c3 ad M) H → va_S (adA SM ad) s.heap H locs → fM_least_266  M = some out → W p l e (rm0_ 2 47) s m args below meth c H locs 0 0 (MQ below (QW G kl SM c3 ad (some (.int out.1)) out.2) args s 0 0 (adA SM ad)) (F0 m 266 ls []) := by
    intro  M H locs ls  hl hP hS hf
    unfold fM_least_266 at hf
    refine lv_aload_n hx hb d_M_least_266 rfl (lv_at hl 0 rfl) ?_
    refine xr_getr hx hb hT hown hK hP sM_0 rfl inM 9 (by decide) wf_M_32 rfl d_M_least_267 ?_
    refine lv_iconst (v := 0) hx hb d_M_least_270 rfl ?_
    obtain ⟨g1, hf⟩ := xgd_some hf
    refine xr_iald hx hb hK hP sM_8 g1 d_M_least_271 ?_
    exact xw_iret hx hb hr hlk hP hS (Option.some.inj hf) d_M_least_272
  have K36 : ∀ (v1 : Int32) (M : Mem) (H : Heap) (locs : List Loc) (ls : Array Slot), lv_has ls 8 [(0, .ref (ad 0)), (1, .int v1)] → va_P G kl (wd SM c3 ad M) H → va_S (adA SM ad) s.heap H locs → fM_least_36 v1 M = some out → W p l e (rm0_ 2 47) s m args below meth c H locs 0 0 (MQ below (QW G kl SM c3 ad (some (.int out.1)) out.2) args s 0 0 (adA SM ad)) (F0 m 36 ls []) := by
    intro v1 M H locs ls  hl hP hS hf
    unfold fM_least_36 at hf
    refine lv_iconst (v := 5) hx hb d_M_least_36 rfl ?_
    refine lv_istore_n (lv' := [(2, .int 5), (0, .ref (ad 0)), (1, .int v1)]) hx hb d_M_least_37 rfl hl (by decide) rfl (fun ls hl => ?_)
    obtain ⟨e38, he38, hk38⟩ := xbd_some hf
    obtain ⟨n38, hq38⟩ := xlp_n he38
    have LH38 : ∀ (n : Nat) (v2 : Int32) (M : Mem) (H : Heap) (locs : List Loc) (ls : Array Slot), lv_has ls 8 [(0, .ref (ad 0)), (1, .int v1), (2, .int v2)] → va_P G kl (wd SM c3 ad M) H → va_S (adA SM ad) s.heap H locs → xwh (bM_least_38 v1) n (v2, M) = some e38 → W p l e (rm0_ 2 47) s m args below meth c H locs 0 0 (MQ below (QW G kl SM c3 ad (some (.int out.1)) out.2) args s 0 0 (adA SM ad)) (F0 m 38 ls []) := by
      intro n
      induction n with
      | zero =>
        intro v2 M H locs ls hl hP hS hn
        exact xwh_0 hn
      | succ n ih38 =>
        intro v2 M H locs ls hl hP hS hn38
        obtain ⟨o38, hf, hn38⟩ := xwh_s hn38
        have hf : gM_least_38 v1 v2 M = some o38 := hf
        have K260 : ∀ (v2 : Int32) (M : Mem) (H : Heap) (locs : List Loc) (ls : Array Slot), lv_has ls 8 [(0, .ref (ad 0)), (1, .int v1), (2, .int v2)] → va_P G kl (wd SM c3 ad M) H → va_S (adA SM ad) s.heap H locs → fM_least_260 v1 v2 M = some o38 → W p l e (rm0_ 2 47) s m args below meth c H locs 0 0 (MQ below (QW G kl SM c3 ad (some (.int out.1)) out.2) args s 0 0 (adA SM ad)) (F0 m 260 ls []) := by
          intro v2 M H locs ls  hl hP hS hf
          unfold fM_least_260 at hf
          obtain ⟨x2, hx2, hf⟩ := xlt_some hf
          refine lv_iinc (k := 2) (lv' := [(2, .int x2), (0, .ref (ad 0)), (1, .int v1)]) hx hb d_M_least_260 hl rfl hx2 (by decide) rfl (fun ls hl => ?_)
          refine lv_goto (tgt := 38) hx hb d_M_least_263 rfl ?_
          exact ih38 x2 M _ _ _ (lv_sub hl [1, 2, 0] rfl) hP hS (xw_again hf hn38)
        have K92 : ∀ (v2 : Int32) (M : Mem) (H : Heap) (locs : List Loc) (ls : Array Slot), lv_has ls 8 [(0, .ref (ad 0)), (1, .int v1), (2, .int v2)] → va_P G kl (wd SM c3 ad M) H → va_S (adA SM ad) s.heap H locs → fM_least_92 v1 v2 M = some o38 → W p l e (rm0_ 2 47) s m args below meth c H locs 0 0 (MQ below (QW G kl SM c3 ad (some (.int out.1)) out.2) args s 0 0 (adA SM ad)) (F0 m 92 ls []) := by
          intro v2 M H locs ls  hl hP hS hf
          unfold fM_least_92 at hf
          refine lv_iconst (v := 0) hx hb d_M_least_92 rfl ?_
          refine lv_istore_n (lv' := [(3, .int 0), (0, .ref (ad 0)), (1, .int v1), (2, .int v2)]) hx hb d_M_least_93 rfl hl (by decide) rfl (fun ls hl => ?_)
          obtain ⟨e94, he94, hk94⟩ := xbd_some hf
          obtain ⟨n94, hq94⟩ := xlp_n he94
          have LH94 : ∀ (n : Nat) (v3 : Int32) (M : Mem) (H : Heap) (locs : List Loc) (ls : Array Slot), lv_has ls 8 [(0, .ref (ad 0)), (1, .int v1), (2, .int v2), (3, .int v3)] → va_P G kl (wd SM c3 ad M) H → va_S (adA SM ad) s.heap H locs → xwh (bM_least_94 v1 v2) n (v3, M) = some e94 → W p l e (rm0_ 2 47) s m args below meth c H locs 0 0 (MQ below (QW G kl SM c3 ad (some (.int out.1)) out.2) args s 0 0 (adA SM ad)) (F0 m 94 ls []) := by
            intro n
            induction n with
            | zero =>
              intro v3 M H locs ls hl hP hS hn
              exact xwh_0 hn
            | succ n ih94 =>
              intro v3 M H locs ls hl hP hS hn94
              obtain ⟨o94, hf, hn94⟩ := xwh_s hn94
              have hf : gM_least_94 v1 v2 v3 M = some o94 := hf
              have K254 : ∀ (v3 : Int32) (M : Mem) (H : Heap) (locs : List Loc) (ls : Array Slot), lv_has ls 8 [(0, .ref (ad 0)), (1, .int v1), (2, .int v2), (3, .int v3)] → va_P G kl (wd SM c3 ad M) H → va_S (adA SM ad) s.heap H locs → fM_least_254 v1 v2 v3 M = some o94 → W p l e (rm0_ 2 47) s m args below meth c H locs 0 0 (MQ below (QW G kl SM c3 ad (some (.int out.1)) out.2) args s 0 0 (adA SM ad)) (F0 m 254 ls []) := by
                intro v3 M H locs ls  hl hP hS hf
                unfold fM_least_254 at hf
                obtain ⟨x3, hx3, hf⟩ := xlt_some hf
                refine lv_iinc (k := 3) (lv' := [(3, .int x3), (0, .ref (ad 0)), (1, .int v1), (2, .int v2)]) hx hb d_M_least_254 hl rfl hx3 (by decide) rfl (fun ls hl => ?_)
                refine lv_goto (tgt := 94) hx hb d_M_least_257 rfl ?_
                exact ih94 x3 M _ _ _ (lv_sub hl [1, 2, 3, 0] rfl) hP hS (xw_again hf hn94)
              have K139 : ∀ (v3 v4 v5 s139_0 : Int32) (M : Mem) (H : Heap) (locs : List Loc) (ls : Array Slot), lv_has ls 8 [(0, .ref (ad 0)), (1, .int v1), (2, .int v2), (3, .int v3), (4, .int v4), (5, .int v5)] → va_P G kl (wd SM c3 ad M) H → va_S (adA SM ad) s.heap H locs → fM_least_139 v1 v2 v3 v4 v5 s139_0 M = some o94 → W p l e (rm0_ 2 47) s m args below meth c H locs 0 0 (MQ below (QW G kl SM c3 ad (some (.int out.1)) out.2) args s 0 0 (adA SM ad)) (F0 m 139 ls [.int s139_0]) := by
                intro v3 v4 v5 s139_0 M H locs ls  hl hP hS hf
                unfold fM_least_139 at hf
                refine lv_istore (lv' := [(6, .int s139_0), (0, .ref (ad 0)), (1, .int v1), (2, .int v2), (3, .int v3), (4, .int v4), (5, .int v5)]) hx hb d_M_least_139 hl (by decide) rfl (fun ls hl => ?_)
                obtain ⟨e141, he141, hk141⟩ := xbd_some hf
                obtain ⟨n141, hq141⟩ := xlp_n he141
                have LH141 : ∀ (n : Nat) (v5 v6 : Int32) (M : Mem) (H : Heap) (locs : List Loc) (ls : Array Slot), lv_has ls 8 [(0, .ref (ad 0)), (1, .int v1), (2, .int v2), (3, .int v3), (4, .int v4), (5, .int v5), (6, .int v6)] → va_P G kl (wd SM c3 ad M) H → va_S (adA SM ad) s.heap H locs → xwh (bM_least_141 v1 v2 v3 v4) n (v5, v6, M) = some e141 → W p l e (rm0_ 2 47) s m args below meth c H locs 0 0 (MQ below (QW G kl SM c3 ad (some (.int out.1)) out.2) args s 0 0 (adA SM ad)) (F0 m 141 ls []) := by
                  intro n
                  induction n with
                  | zero =>
                    intro v5 v6 M H locs ls hl hP hS hn
                    exact xwh_0 hn
                  | succ n ih141 =>
                    intro v5 v6 M H locs ls hl hP hS hn141
                    obtain ⟨o141, hf, hn141⟩ := xwh_s hn141
                    have hf : gM_least_141 v1 v2 v3 v4 v5 v6 M = some o141 := hf
                    have K240 : ∀ (v5 s240_0 : Int32) (M : Mem) (H : Heap) (locs : List Loc) (ls : Array Slot), lv_has ls 8 [(0, .ref (ad 0)), (1, .int v1), (2, .int v2), (3, .int v3), (4, .int v4), (5, .int v5)] → va_P G kl (wd SM c3 ad M) H → va_S (adA SM ad) s.heap H locs → fM_least_240 v1 v2 v3 v4 v5 s240_0 M = some o141 → W p l e (rm0_ 2 47) s m args below meth c H locs 0 0 (MQ below (QW G kl SM c3 ad (some (.int out.1)) out.2) args s 0 0 (adA SM ad)) (F0 m 240 ls [.int s240_0]) := by
                      intro v5 s240_0 M H locs ls  hl hP hS hf
                      unfold fM_least_240 at hf
                      refine lv_istore (lv' := [(6, .int s240_0), (0, .ref (ad 0)), (1, .int v1), (2, .int v2), (3, .int v3), (4, .int v4), (5, .int v5)]) hx hb d_M_least_240 hl (by decide) rfl (fun ls hl => ?_)
                      refine lv_iload hx hb d_M_least_242 (lv_at hl 6 rfl) ?_
                      refine lv_iconst (v := 1) hx hb d_M_least_244 rfl ?_
                      refine lv_isub hx hb d_M_least_245 ?_
                      refine lv_iload hx hb d_M_least_246 (lv_at hl 5 rfl) ?_
                      refine lv_iand hx hb d_M_least_248 ?_
                      obtain ⟨x4, hx4, hf⟩ := xlt_some hf
                      refine xr_name hx4 ?_
                      refine lv_istore (lv' := [(5, .int x4), (6, .int s240_0), (0, .ref (ad 0)), (1, .int v1), (2, .int v2), (3, .int v3), (4, .int v4)]) hx hb d_M_least_249 hl (by decide) rfl (fun ls hl => ?_)
                      refine lv_goto (tgt := 141) hx hb d_M_least_251 rfl ?_
                      exact ih141 x4 s240_0 M _ _ _ (lv_sub hl [2, 3, 4, 5, 6, 0, 1] rfl) hP hS (xw_again hf hn141)
                    have K230 : ∀ (v5 : Int32) (M : Mem) (H : Heap) (locs : List Loc) (ls : Array Slot), lv_has ls 8 [(0, .ref (ad 0)), (1, .int v1), (2, .int v2), (3, .int v3), (4, .int v4), (5, .int v5)] → va_P G kl (wd SM c3 ad M) H → va_S (adA SM ad) s.heap H locs → fM_least_230 v1 v2 v3 v4 v5 M = some o141 → W p l e (rm0_ 2 47) s m args below meth c H locs 0 0 (MQ below (QW G kl SM c3 ad (some (.int out.1)) out.2) args s 0 0 (adA SM ad)) (F0 m 230 ls []) := by
                      intro v5 M H locs ls  hl hP hS hf
                      unfold fM_least_230 at hf
                      refine lv_iload hx hb d_M_least_230 (lv_at hl 5 rfl) ?_
                      refine lv_if_le (tgt := 239) hx hb d_M_least_232 rfl (fun hc => ?_) (fun hc => ?_)
                      · have hf := ite_t hc hf
                        refine lv_iconst (v := 0) hx hb d_M_least_239 rfl ?_
                        exact K240 v5 0 M _ _ _  hl hP hS hf
                      · have hf := ite_f hc hf
                        refine lv_iconst (v := 1) hx hb d_M_least_235 rfl ?_
                        refine lv_goto (tgt := 240) hx hb d_M_least_236 rfl ?_
                        exact K240 v5 1 M _ _ _  hl hP hS hf
                    have K175 : ∀ (v5 s175_0 s175_1 : Int32) (M : Mem) (H : Heap) (locs : List Loc) (ls : Array Slot), lv_has ls 8 [(0, .ref (ad 0)), (1, .int v1), (2, .int v2), (3, .int v3), (4, .int v4), (5, .int v5)] → va_P G kl (wd SM c3 ad M) H → va_S (adA SM ad) s.heap H locs → fM_least_175 v1 v2 v3 v4 v5 s175_0 s175_1 M = some o141 → W p l e (rm0_ 2 47) s m args below meth c H locs 0 0 (MQ below (QW G kl SM c3 ad (some (.int out.1)) out.2) args s 0 0 (adA SM ad)) (F0 m 175 ls [.int s175_0, .int s175_1]) := by
                      intro v5 s175_0 s175_1 M H locs ls  hl hP hS hf
                      unfold fM_least_175 at hf
                      refine lv_iadd hx hb d_M_least_175 ?_
                      obtain ⟨x5, hx5, hf⟩ := xlt_some hf
                      refine xr_name hx5 ?_
                      refine lv_istore (lv' := [(7, .int x5), (0, .ref (ad 0)), (1, .int v1), (2, .int v2), (3, .int v3), (4, .int v4), (5, .int v5)]) hx hb d_M_least_176 hl (by decide) rfl (fun ls hl => ?_)
                      refine lv_aload_n hx hb d_M_least_178 rfl (lv_at hl 1 rfl) ?_
                      refine xr_getr hx hb hT hown hK hP sM_0 rfl inM 12 (by decide) wf_M_41 rfl d_M_least_179 ?_
                      refine lv_iload hx hb d_M_least_182 (lv_at hl 6 rfl) ?_
                      obtain ⟨g6, hf⟩ := xgd_some hf
                      refine xr_zald hx hb hK hP sM_11 g6 d_M_least_184 ?_
                      refine lv_if_eq (tgt := 230) hx hb d_M_least_185 rfl (fun hc => ?_) (fun hc => ?_)
                      · have hf := ite_t hc hf
                        exact K230 v5 M _ _ _  (lv_sub hl [1, 2, 3, 4, 5, 6] rfl) hP hS hf
                      · have hf := ite_f hc hf
                        refine lv_iload hx hb d_M_least_188 (lv_at hl 0 rfl) ?_
                        refine lv_aload_n hx hb d_M_least_190 rfl (lv_at hl 1 rfl) ?_
                        refine xr_getr hx hb hT hown hK hP sM_0 rfl inM 9 (by decide) wf_M_32 rfl d_M_least_191 ?_
                        refine lv_sipush (v := 512) hx hb d_M_least_194 rfl ?_
                        refine lv_iload_n hx hb d_M_least_197 rfl (lv_at hl 3 rfl) ?_
                        refine lv_imul hx hb d_M_least_198 ?_
                        refine lv_iload_n hx hb d_M_least_199 rfl (lv_at hl 4 rfl) ?_
                        refine lv_iadd hx hb d_M_least_200 ?_
                        obtain ⟨x7, hx7, hf⟩ := xlt_some hf
                        refine xr_name hx7 ?_
                        obtain ⟨g8, hf⟩ := xgd_some hf
                        refine xr_iald hx hb hK hP sM_8 g8 d_M_least_201 ?_
                        refine lv_icmp_ge (tgt := 230) hx hb d_M_least_202 rfl (fun hc => ?_) (fun hc => ?_)
                        · have hf := ite_t hc hf
                          exact K230 v5 M _ _ _  (lv_sub hl [1, 2, 3, 4, 5, 6] rfl) hP hS hf
                        · have hf := ite_f hc hf
                          refine lv_aload_n hx hb d_M_least_205 rfl (lv_at hl 1 rfl) ?_
                          refine lv_iload hx hb d_M_least_206 (lv_at hl 6 rfl) ?_
                          refine lv_iload_n hx hb d_M_least_208 rfl (lv_at hl 4 rfl) ?_
                          refine lv_iload_n hx hb d_M_least_209 rfl (lv_at hl 2 rfl) ?_
                          obtain ⟨r9, hr9, hf⟩ := xbd_some hf
                          refine xc_rv (rest := []) F hT hK hP (tM_follows l G c3 ad M v5 v3 v1 r9 hr9) sM_0 rfl wl_M_121 wi_M_follows we_M_follows wn_M wc_M_follows ck_M_follows ⟨rfl, rfl⟩ ⟨by decide, by decide⟩ ⟨Nat.le_refl _, Nat.le_refl _⟩ hl.1 rfl (Nat.le_of_ble_eq_true rfl) d_M_least_210 ?_
                          refine lv_if_eq (tgt := 230) hx hb d_M_least_213 rfl (fun hc => ?_) (fun hc => ?_)
                          · have hf := ite_t hc hf
                            exact K230 v5 M _ _ _  (lv_sub hl [1, 2, 3, 4, 5, 6] rfl) hP hS hf
                          · have hf := ite_f hc hf
                            refine lv_aload_n hx hb d_M_least_216 rfl (lv_at hl 1 rfl) ?_
                            refine xr_getr hx hb hT hown hK hP sM_0 rfl inM 9 (by decide) wf_M_32 rfl d_M_least_217 ?_
                            refine lv_sipush (v := 512) hx hb d_M_least_220 rfl ?_
                            refine lv_iload_n hx hb d_M_least_223 rfl (lv_at hl 3 rfl) ?_
                            refine lv_imul hx hb d_M_least_224 ?_
                            refine lv_iload_n hx hb d_M_least_225 rfl (lv_at hl 4 rfl) ?_
                            refine lv_iadd hx hb d_M_least_226 ?_
                            refine lv_iload hx hb d_M_least_227 (lv_at hl 0 rfl) ?_
                            obtain ⟨g10, hf⟩ := xgd_some hf
                            obtain ⟨M11, hM11, hf⟩ := xlt_some hf
                            refine xr_iast hx hb hd hK hP hS sM_8 g10 d_M_least_229 (fun H locs hP hS => ?_)
                            rw [hM11] at hP
                            exact K230 v5 M11 _ _ _  (lv_sub hl [1, 2, 3, 4, 5, 6] rfl) hP hS hf
                    unfold gM_least_141 at hf
                    refine lv_iload hx hb d_M_least_141 (lv_at hl 6 rfl) ?_
                    refine lv_if_eq (tgt := 254) hx hb d_M_least_143 rfl (fun hc => ?_) (fun hc => ?_)
                    · have hf := ite_t hc hf
                      have he := xw_exit hf hn141
                      subst he
                      have hf := hk141
                      exact K254 v3 M _ _ _  (lv_sub hl [0, 1, 2, 3] rfl) hP hS hf
                    · have hf := ite_f hc hf
                      refine lv_aload_n hx hb d_M_least_146 rfl (lv_at hl 0 rfl) ?_
                      refine xr_getr hx hb hT hown hK hP sM_0 rfl inM 9 (by decide) wf_M_32 rfl d_M_least_147 ?_
                      refine lv_sipush (v := 512) hx hb d_M_least_150 rfl ?_
                      refine lv_iload_n hx hb d_M_least_153 rfl (lv_at hl 2 rfl) ?_
                      refine lv_imul hx hb d_M_least_154 ?_
                      refine lv_sipush (v := 512) hx hb d_M_least_155 rfl ?_
                      refine lv_iadd hx hb d_M_least_158 ?_
                      refine lv_iload_n hx hb d_M_least_159 rfl (lv_at hl 3 rfl) ?_
                      refine lv_iload hx hb d_M_least_160 (lv_at hl 5 rfl) ?_
                      refine lv_ior hx hb d_M_least_162 ?_
                      refine lv_iadd hx hb d_M_least_163 ?_
                      obtain ⟨x12, hx12, hf⟩ := xlt_some hf
                      refine xr_name hx12 ?_
                      obtain ⟨g13, hf⟩ := xgd_some hf
                      refine xr_iald hx hb hK hP sM_8 g13 d_M_least_164 ?_
                      refine lv_iload hx hb d_M_least_165 (lv_at hl 5 rfl) ?_
                      refine lv_if_ne (tgt := 174) hx hb d_M_least_167 rfl (fun hc => ?_) (fun hc => ?_)
                      · have hf := ite_f hc hf
                        refine lv_iconst (v := 1) hx hb d_M_least_174 rfl ?_
                        exact K175 v5 1 (M 8 x12.toNatClampNeg) M _ _ _  (lv_sub hl [0, 1, 2, 3, 4, 5] rfl) hP hS hf
                      · have hf := ite_t hc hf
                        refine lv_iconst (v := 0) hx hb d_M_least_170 rfl ?_
                        refine lv_goto (tgt := 175) hx hb d_M_least_171 rfl ?_
                        exact K175 v5 0 (M 8 x12.toNatClampNeg) M _ _ _  (lv_sub hl [0, 1, 2, 3, 4, 5] rfl) hP hS hf
                exact LH141 n141 v5 s139_0 M _ _ _ (lv_sub hl [1, 2, 3, 4, 5, 6, 0] rfl) hP hS hq141
              unfold gM_least_94 at hf
              refine lv_iload_n hx hb d_M_least_94 rfl (lv_at hl 3 rfl) ?_
              refine lv_sipush (v := 512) hx hb d_M_least_95 rfl ?_
              refine lv_icmp_ge (tgt := 260) hx hb d_M_least_98 rfl (fun hc => ?_) (fun hc => ?_)
              · have hf := ite_t hc hf
                have he := xw_exit hf hn94
                subst he
                have hf := hk94
                exact K260 v2 M _ _ _  (lv_sub hl [0, 1, 2] rfl) hP hS hf
              · have hf := ite_f hc hf
                refine lv_aload_n hx hb d_M_least_101 rfl (lv_at hl 0 rfl) ?_
                refine xr_getr hx hb hT hown hK hP sM_0 rfl inM 9 (by decide) wf_M_32 rfl d_M_least_102 ?_
                refine lv_sipush (v := 512) hx hb d_M_least_105 rfl ?_
                refine lv_iload_n hx hb d_M_least_108 rfl (lv_at hl 2 rfl) ?_
                refine lv_imul hx hb d_M_least_109 ?_
                refine lv_iload_n hx hb d_M_least_110 rfl (lv_at hl 3 rfl) ?_
                refine lv_iadd hx hb d_M_least_111 ?_
                refine lv_bipush (v := 99) hx hb d_M_least_112 rfl ?_
                obtain ⟨g14, hf⟩ := xgd_some hf
                obtain ⟨M15, hM15, hf⟩ := xlt_some hf
                refine xr_iast hx hb hd hK hP hS sM_8 g14 d_M_least_114 (fun H locs hP hS => ?_)
                rw [hM15] at hP
                refine lv_iload_n hx hb d_M_least_115 rfl (lv_at hl 1 rfl) ?_
                refine lv_iload_n hx hb d_M_least_116 rfl (lv_at hl 3 rfl) ?_
                refine lv_iconst (v := (-1)) hx hb d_M_least_117 rfl ?_
                refine lv_ixor hx hb d_M_least_118 ?_
                refine lv_iand hx hb d_M_least_119 ?_
                obtain ⟨x16, hx16, hf⟩ := xlt_some hf
                refine xr_name hx16 ?_
                refine lv_istore (lv' := [(4, .int x16), (0, .ref (ad 0)), (1, .int v1), (2, .int v2), (3, .int v3)]) hx hb d_M_least_120 hl (by decide) rfl (fun ls hl => ?_)
                refine lv_iload hx hb d_M_least_122 (lv_at hl 0 rfl) ?_
                refine lv_istore (lv' := [(5, .int x16), (4, .int x16), (0, .ref (ad 0)), (1, .int v1), (2, .int v2), (3, .int v3)]) hx hb d_M_least_124 hl (by decide) rfl (fun ls hl => ?_)
                refine lv_iload_n hx hb d_M_least_126 rfl (lv_at hl 5 rfl) ?_
                refine lv_iload_n hx hb d_M_least_127 rfl (lv_at hl 3 rfl) ?_
                refine lv_iconst (v := (-1)) hx hb d_M_least_128 rfl ?_
                refine lv_ixor hx hb d_M_least_129 ?_
                refine lv_iand hx hb d_M_least_130 ?_
                refine lv_if_ne (tgt := 138) hx hb d_M_least_131 rfl (fun hc => ?_) (fun hc => ?_)
                · have hf := ite_f hc hf
                  refine lv_iconst (v := 0) hx hb d_M_least_138 rfl ?_
                  exact K139 v3 x16 x16 0 M15 _ _ _  (lv_sub hl [2, 3, 4, 5, 1, 0] rfl) hP hS hf
                · have hf := ite_t hc hf
                  refine lv_iconst (v := 1) hx hb d_M_least_134 rfl ?_
                  refine lv_goto (tgt := 139) hx hb d_M_least_135 rfl ?_
                  exact K139 v3 x16 x16 1 M15 _ _ _  (lv_sub hl [2, 3, 4, 5, 1, 0] rfl) hP hS hf
          exact LH94 n94 0 M _ _ _ (lv_sub hl [1, 2, 3, 0] rfl) hP hS hq94
        unfold gM_least_38 at hf
        refine lv_iload_n hx hb d_M_least_38 rfl (lv_at hl 2 rfl) ?_
        refine lv_if_lt (tgt := 266) hx hb d_M_least_39 rfl (fun hc => ?_) (fun hc => ?_)
        · have hf := ite_t hc hf
          have he := xw_exit hf hn38
          subst he
          have hf := hk38
          exact K266  M _ _ _  (lv_sub hl [0] rfl) hP hS hf
        · have hf := ite_f hc hf
          refine lv_iconst (v := 0) hx hb d_M_least_42 rfl ?_
          refine lv_istore_n (lv' := [(3, .int 0), (0, .ref (ad 0)), (1, .int v1), (2, .int v2)]) hx hb d_M_least_43 rfl hl (by decide) rfl (fun ls hl => ?_)
          obtain ⟨e44, he44, hk44⟩ := xbd_some hf
          obtain ⟨n44, hq44⟩ := xlp_n he44
          have LH44 : ∀ (n : Nat) (v3 : Int32) (M : Mem) (H : Heap) (locs : List Loc) (ls : Array Slot), lv_has ls 8 [(0, .ref (ad 0)), (1, .int v1), (2, .int v2), (3, .int v3)] → va_P G kl (wd SM c3 ad M) H → va_S (adA SM ad) s.heap H locs → xwh (bM_least_44 v1 v2) n (v3, M) = some e44 → W p l e (rm0_ 2 47) s m args below meth c H locs 0 0 (MQ below (QW G kl SM c3 ad (some (.int out.1)) out.2) args s 0 0 (adA SM ad)) (F0 m 44 ls []) := by
            intro n
            induction n with
            | zero =>
              intro v3 M H locs ls hl hP hS hn
              exact xwh_0 hn
            | succ n ih44 =>
              intro v3 M H locs ls hl hP hS hn44
              obtain ⟨o44, hf, hn44⟩ := xwh_s hn44
              have hf : gM_least_44 v1 v2 v3 M = some o44 := hf
              have K85 : ∀ (v3 s85_0 s85_1 : Int32) (M : Mem) (H : Heap) (locs : List Loc) (ls : Array Slot), lv_has ls 8 [(0, .ref (ad 0)), (1, .int v1), (2, .int v2), (3, .int v3)] → va_P G kl (wd SM c3 ad M) H → va_S (adA SM ad) s.heap H locs → fM_least_85 v1 v2 v3 s85_0 s85_1 M = some o44 → W p l e (rm0_ 2 47) s m args below meth c H locs 0 0 (MQ below (QW G kl SM c3 ad (some (.int out.1)) out.2) args s 0 0 (adA SM ad)) (F0 m 85 ls [.int s85_0, .int s85_1, .ref (ad 11)]) := by
                intro v3 s85_0 s85_1 M H locs ls  hl hP hS hf
                unfold fM_least_85 at hf
                obtain ⟨g17, hf⟩ := xgd_some hf
                obtain ⟨M18, hM18, hf⟩ := xlt_some hf
                refine xr_zast hx hb hd hK hP hS sM_11 g17 d_M_least_85 (fun H locs hP hS => ?_)
                rw [hM18] at hP
                obtain ⟨x19, hx19, hf⟩ := xlt_some hf
                refine lv_iinc (k := 3) (lv' := [(3, .int x19), (0, .ref (ad 0)), (1, .int v1), (2, .int v2)]) hx hb d_M_least_86 hl rfl hx19 (by decide) rfl (fun ls hl => ?_)
                refine lv_goto (tgt := 44) hx hb d_M_least_89 rfl ?_
                exact ih44 x19 M18 _ _ _ (lv_sub hl [1, 2, 3, 0] rfl) hP hS (xw_again hf hn44)
              have K84 : ∀ (v3 s84_0 : Int32) (M : Mem) (H : Heap) (locs : List Loc) (ls : Array Slot), lv_has ls 8 [(0, .ref (ad 0)), (1, .int v1), (2, .int v2), (3, .int v3)] → va_P G kl (wd SM c3 ad M) H → va_S (adA SM ad) s.heap H locs → fM_least_84 v1 v2 v3 s84_0 M = some o44 → W p l e (rm0_ 2 47) s m args below meth c H locs 0 0 (MQ below (QW G kl SM c3 ad (some (.int out.1)) out.2) args s 0 0 (adA SM ad)) (F0 m 84 ls [.int s84_0, .ref (ad 11)]) := by
                intro v3 s84_0 M H locs ls  hl hP hS hf
                unfold fM_least_84 at hf
                refine lv_iconst (v := 0) hx hb d_M_least_84 rfl ?_
                exact K85 v3 0 s84_0 M _ _ _  hl hP hS hf
              unfold gM_least_44 at hf
              refine lv_iload_n hx hb d_M_least_44 rfl (lv_at hl 3 rfl) ?_
              refine lv_sipush (v := 512) hx hb d_M_least_45 rfl ?_
              refine lv_icmp_ge (tgt := 92) hx hb d_M_least_48 rfl (fun hc => ?_) (fun hc => ?_)
              · have hf := ite_t hc hf
                have he := xw_exit hf hn44
                subst he
                have hf := hk44
                exact K92 v2 M _ _ _  (lv_sub hl [0, 1, 2] rfl) hP hS hf
              · have hf := ite_f hc hf
                refine lv_aload_n hx hb d_M_least_51 rfl (lv_at hl 0 rfl) ?_
                refine xr_getr hx hb hT hown hK hP sM_0 rfl inM 12 (by decide) wf_M_41 rfl d_M_least_52 ?_
                refine lv_iload_n hx hb d_M_least_55 rfl (lv_at hl 3 rfl) ?_
                refine lv_aload_n hx hb d_M_least_56 rfl (lv_at hl 0 rfl) ?_
                refine xr_getr hx hb hT hown hK hP sM_0 rfl inM 11 (by decide) wf_M_38 rfl d_M_least_57 ?_
                refine lv_sipush (v := 512) hx hb d_M_least_60 rfl ?_
                refine lv_iload_n hx hb d_M_least_63 rfl (lv_at hl 2 rfl) ?_
                refine lv_imul hx hb d_M_least_64 ?_
                refine lv_iload_n hx hb d_M_least_65 rfl (lv_at hl 3 rfl) ?_
                refine lv_iadd hx hb d_M_least_66 ?_
                obtain ⟨x20, hx20, hf⟩ := xlt_some hf
                refine xr_name hx20 ?_
                obtain ⟨g21, hf⟩ := xgd_some hf
                refine xr_zald hx hb hK hP sM_10 g21 d_M_least_67 ?_
                refine lv_if_eq (tgt := 84) hx hb d_M_least_68 rfl (fun hc => ?_) (fun hc => ?_)
                · have hf := ite_t hc hf
                  exact K84 v3 v3 M _ _ _  hl hP hS hf
                · have hf := ite_f hc hf
                  refine lv_aload_n hx hb d_M_least_71 rfl (lv_at hl 0 rfl) ?_
                  refine lv_iload_n hx hb d_M_least_72 rfl (lv_at hl 2 rfl) ?_
                  refine lv_iload_n hx hb d_M_least_73 rfl (lv_at hl 3 rfl) ?_
                  obtain ⟨r22, hr22, hf⟩ := xbd_some hf
                  refine xc_rv (rest := [.int v3, .ref (ad 11)]) F hT hK hP (tM_keeps l G c3 ad M v2 v3 r22 hr22) sM_0 rfl wl_M_118 wi_M_keeps we_M_keeps wn_M wc_M_keeps ck_M_keeps ⟨rfl, rfl⟩ ⟨by decide, by decide⟩ ⟨Nat.le_refl _, Nat.le_refl _⟩ hl.1 rfl (Nat.le_of_ble_eq_true rfl) d_M_least_74 ?_
                  refine lv_if_eq (tgt := 84) hx hb d_M_least_77 rfl (fun hc => ?_) (fun hc => ?_)
                  · have hf := ite_t hc hf
                    exact K84 v3 v3 M _ _ _  hl hP hS hf
                  · have hf := ite_f hc hf
                    refine lv_iconst (v := 1) hx hb d_M_least_80 rfl ?_
                    refine lv_goto (tgt := 85) hx hb d_M_least_81 rfl ?_
                    exact K85 v3 1 v3 M _ _ _  hl hP hS hf
          exact LH44 n44 0 M _ _ _ (lv_sub hl [1, 2, 3, 0] rfl) hP hS hq44
    exact LH38 n38 5 M _ _ _ (lv_sub hl [1, 2, 0] rfl) hP hS hq38
  unfold fM_least at hf
  refine lv_iconst (v := 0) hx hb d_M_least_0 rfl ?_
  refine lv_istore_n (lv' := [(2, .int 0), (0, .ref (ad 0)), (1, .int a1)]) hx hb d_M_least_1 rfl hl (by decide) rfl (fun ls hl => ?_)
  obtain ⟨e2, he2, hk2⟩ := xbd_some hf
  obtain ⟨n2, hq2⟩ := xlp_n he2
  have LH2 : ∀ (n : Nat) (v2 : Int32) (M : Mem) (H : Heap) (locs : List Loc) (ls : Array Slot), lv_has ls 8 [(0, .ref (ad 0)), (1, .int a1), (2, .int v2)] → va_P G kl (wd SM c3 ad M) H → va_S (adA SM ad) s.heap H locs → xwh (bM_least_2 a1) n (v2, M) = some e2 → W p l e (rm0_ 2 47) s m args below meth c H locs 0 0 (MQ below (QW G kl SM c3 ad (some (.int out.1)) out.2) args s 0 0 (adA SM ad)) (F0 m 2 ls []) := by
    intro n
    induction n with
    | zero =>
      intro v2 M H locs ls hl hP hS hn
      exact xwh_0 hn
    | succ n ih2 =>
      intro v2 M H locs ls hl hP hS hn2
      obtain ⟨o2, hf, hn2⟩ := xwh_s hn2
      have hf : gM_least_2 a1 v2 M = some o2 := hf
      have K29 : ∀ (v2 s29_0 s29_1 : Int32) (M : Mem) (H : Heap) (locs : List Loc) (ls : Array Slot), lv_has ls 8 [(0, .ref (ad 0)), (1, .int a1), (2, .int v2)] → va_P G kl (wd SM c3 ad M) H → va_S (adA SM ad) s.heap H locs → fM_least_29 a1 v2 s29_0 s29_1 M = some o2 → W p l e (rm0_ 2 47) s m args below meth c H locs 0 0 (MQ below (QW G kl SM c3 ad (some (.int out.1)) out.2) args s 0 0 (adA SM ad)) (F0 m 29 ls [.int s29_0, .int s29_1, .ref (ad 8)]) := by
        intro v2 s29_0 s29_1 M H locs ls  hl hP hS hf
        unfold fM_least_29 at hf
        obtain ⟨g23, hf⟩ := xgd_some hf
        obtain ⟨M24, hM24, hf⟩ := xlt_some hf
        refine xr_iast hx hb hd hK hP hS sM_8 g23 d_M_least_29 (fun H locs hP hS => ?_)
        rw [hM24] at hP
        obtain ⟨x25, hx25, hf⟩ := xlt_some hf
        refine lv_iinc (k := 2) (lv' := [(2, .int x25), (0, .ref (ad 0)), (1, .int a1)]) hx hb d_M_least_30 hl rfl hx25 (by decide) rfl (fun ls hl => ?_)
        refine lv_goto (tgt := 2) hx hb d_M_least_33 rfl ?_
        exact ih2 x25 M24 _ _ _ (lv_sub hl [1, 2, 0] rfl) hP hS (xw_again hf hn2)
      unfold gM_least_2 at hf
      refine lv_iload_n hx hb d_M_least_2 rfl (lv_at hl 2 rfl) ?_
      refine lv_sipush (v := 512) hx hb d_M_least_3 rfl ?_
      refine lv_icmp_ge (tgt := 36) hx hb d_M_least_6 rfl (fun hc => ?_) (fun hc => ?_)
      · have hf := ite_t hc hf
        have he := xw_exit hf hn2
        subst he
        have hf := hk2
        exact K36 a1 M _ _ _  (lv_sub hl [0, 1] rfl) hP hS hf
      · have hf := ite_f hc hf
        refine lv_aload_n hx hb d_M_least_9 rfl (lv_at hl 0 rfl) ?_
        refine xr_getr hx hb hT hown hK hP sM_0 rfl inM 9 (by decide) wf_M_32 rfl d_M_least_10 ?_
        refine lv_sipush (v := 3072) hx hb d_M_least_13 rfl ?_
        refine lv_iload_n hx hb d_M_least_16 rfl (lv_at hl 2 rfl) ?_
        refine lv_iadd hx hb d_M_least_17 ?_
        refine lv_iload_n hx hb d_M_least_18 rfl (lv_at hl 2 rfl) ?_
        refine lv_iload_n hx hb d_M_least_19 rfl (lv_at hl 1 rfl) ?_
        refine lv_icmp_ne (tgt := 27) hx hb d_M_least_20 rfl (fun hc => ?_) (fun hc => ?_)
        · have hf := ite_f hc hf
          refine lv_bipush (v := 99) hx hb d_M_least_27 rfl ?_
          exact K29 v2 99 (3072 + v2) M _ _ _  hl hP hS hf
        · have hf := ite_t hc hf
          refine lv_iconst (v := 0) hx hb d_M_least_23 rfl ?_
          refine lv_goto (tgt := 29) hx hb d_M_least_24 rfl ?_
          exact K29 v2 0 (3072 + v2) M _ _ _  hl hP hS hf
  exact LH2 n2 0 M _ _ _ (lv_sub hl [1, 2, 0] rfl) hP hS hq2
noncomputable def fM_plan_241 (v2 : Int32) (M : Mem) : Option (Int32 × Mem) := some (v2, M)
noncomputable def fM_plan_235 (v1 v2 v3 : Int32) (M : Mem) : Option ((Int32 × Mem) ⊕ (Int32 × Mem)) := xlt (v3 + 1) (fun x1 => some (.inr (x1, M)))
noncomputable def fM_plan_228 (v1 v2 v3 v4 s228_0 s228_1 : Int32) (M : Mem) : Option ((Int32 × Mem) ⊕ (Int32 × Mem)) := xgd (vp_in s228_1 9) (xlt (up2 M 7 s228_1.toNatClampNeg s228_0) (fun M3 => xlt (v4 + 1) (fun x4 => some (.inr (x4, M3)))))
noncomputable def gM_plan_175 (v1 v2 v3 : Int32) (v4 : Int32) (M : Mem) : Option ((Int32 × Mem) ⊕ (Int32 × Mem)) := if 6 ≤ v4 then (some (.inl (v4, M))) else (xgd (vp_in v3 9) (if (M 7 v3.toNatClampNeg) = (-1) then (xbd (fM_has v1 v3) (fun r6 => if r6 = 0 then (some (.inl (v4, M))) else (xgd (vp_in v3 9) (xlt (up2 M 9 v3.toNatClampNeg v4) (fun M8 => xbd (fM_least v1 M8) (fun r9 => if r9.1 = v2 then (fM_plan_228 v1 v2 v3 v4 v4 v3 r9.2) else (fM_plan_228 v1 v2 v3 v4 (-1) v3 r9.2))))))) else (some (.inl (v4, M)))))
noncomputable def bM_plan_175 (v1 v2 v3 : Int32) : Int32 × Mem → Option ((Int32 × Mem) ⊕ (Int32 × Mem)) := fun st => gM_plan_175 v1 v2 v3 st.1 st.2
noncomputable def gM_plan_159 (v1 v2 : Int32) (v3 : Int32) (M : Mem) : Option ((Int32 × Mem) ⊕ (Int32 × Mem)) := if 9 ≤ v3 then (some (.inl (v3, M))) else (xgd (vp_in v3 9) (xlt (up2 M 7 v3.toNatClampNeg (-1)) (fun M11 => xbd (xlp (bM_plan_175 v1 v2 v3) (0, M11)) (fun e175 => fM_plan_235 v1 v2 v3 e175.2))))
noncomputable def bM_plan_159 (v1 v2 : Int32) : Int32 × Mem → Option ((Int32 × Mem) ⊕ (Int32 × Mem)) := fun st => gM_plan_159 v1 v2 st.1 st.2
noncomputable def fM_plan_138 (v1 : Int32) (M : Mem) : Option (Int32 × Mem) := xbd (fM_least v1 M) (fun r20 => if r20.1 < 99 then (xlt (up2 r20.2 0 7 1) (fun M21 => xbd (xlp (bM_plan_159 v1 r20.1) (0, M21)) (fun e159 => fM_plan_241 r20.1 e159.2))) else (some ((-1), r20.2)))
noncomputable def fM_plan_132 (v1 v2 : Int32) (M : Mem) : Option ((Int32 × Mem) ⊕ (Int32 × Mem)) := xlt (v2 + 1) (fun x33 => some (.inr (x33, M)))
noncomputable def fM_plan_125 (v1 v2 v3 s125_0 s125_1 : Int32) (M : Mem) : Option ((Int32 × Mem) ⊕ (Int32 × Mem)) := xgd (vp_in s125_1 3072) (xlt (up2 M 10 s125_1.toNatClampNeg (vp_nar .boolean s125_0)) (fun M35 => xlt (v3 + 1) (fun x36 => some (.inr (x36, M35)))))
noncomputable def fM_plan_124 (v1 v2 v3 s124_0 : Int32) (M : Mem) : Option ((Int32 × Mem) ⊕ (Int32 × Mem)) := fM_plan_125 v1 v2 v3 0 s124_0 M
noncomputable def gM_plan_84 (v1 v2 : Int32) (v3 : Int32) (M : Mem) : Option ((Int32 × Mem) ⊕ (Int32 × Mem)) := if 512 ≤ v3 then (some (.inl (v3, M))) else (if (v3 &&& (v1 ^^^ (-1))) = 0 then (xbd (fM_fits v2 v3 v1 M) (fun r37 => if r37 = 0 then (fM_plan_124 v1 v2 v3 ((512 * v2) + v3) M) else (fM_plan_125 v1 v2 v3 1 ((512 * v2) + v3) M))) else (fM_plan_124 v1 v2 v3 ((512 * v2) + v3) M))
noncomputable def bM_plan_84 (v1 v2 : Int32) : Int32 × Mem → Option ((Int32 × Mem) ⊕ (Int32 × Mem)) := fun st => gM_plan_84 v1 v2 st.1 st.2
noncomputable def gM_plan_76 (v1 : Int32) (v2 : Int32) (M : Mem) : Option ((Int32 × Mem) ⊕ (Int32 × Mem)) := if 6 ≤ v2 then (some (.inl (v2, M))) else (xbd (xlp (bM_plan_84 v1 v2) (0, M)) (fun e84 => fM_plan_132 v1 v2 e84.2))
noncomputable def bM_plan_76 (v1 : Int32) : Int32 × Mem → Option ((Int32 × Mem) ⊕ (Int32 × Mem)) := fun st => gM_plan_76 v1 st.1 st.2
noncomputable def fM_plan_74 (v1 : Int32) (M : Mem) : Option (Int32 × Mem) := xbd (xlp (bM_plan_76 v1) (0, M)) (fun e76 => fM_plan_138 v1 e76.2)
noncomputable def fM_plan_68 (v1 v2 : Int32) (M : Mem) : Option ((Int32 × Mem) ⊕ (Int32 × Mem)) := xlt (v2 + 1) (fun x47 => some (.inr (x47, M)))
noncomputable def fM_plan_61 (v1 v2 v3 s61_0 s61_1 : Int32) (M : Mem) : Option ((Int32 × Mem) ⊕ (Int32 × Mem)) := xgd (vp_in s61_1 81) (xlt (up2 M 12 s61_1.toNatClampNeg (vp_nar .boolean s61_0)) (fun M49 => xlt (v3 + 1) (fun x50 => some (.inr (x50, M49)))))
noncomputable def gM_plan_31 (v1 v2 : Int32) (v3 : Int32) (M : Mem) : Option ((Int32 × Mem) ⊕ (Int32 × Mem)) := if 9 ≤ v3 then (some (.inl (v3, M))) else (xbd (fM_common v2 v3 M) (fun r51 => if r51 ≤ 0 then (fM_plan_61 v1 v2 v3 0 ((9 * v2) + v3) M) else (fM_plan_61 v1 v2 v3 1 ((9 * v2) + v3) M)))
noncomputable def bM_plan_31 (v1 v2 : Int32) : Int32 × Mem → Option ((Int32 × Mem) ⊕ (Int32 × Mem)) := fun st => gM_plan_31 v1 v2 st.1 st.2
noncomputable def gM_plan_16 (v1 : Int32) (v2 : Int32) (M : Mem) : Option ((Int32 × Mem) ⊕ (Int32 × Mem)) := if 9 ≤ v2 then (some (.inl (v2, M))) else (xgd (vp_in v2 9) (xlt (up2 M 9 v2.toNatClampNeg (-1)) (fun M53 => xbd (xlp (bM_plan_31 v1 v2) (0, M53)) (fun e31 => fM_plan_68 v1 v2 e31.2))))
noncomputable def bM_plan_16 (v1 : Int32) : Int32 × Mem → Option ((Int32 × Mem) ⊕ (Int32 × Mem)) := fun st => gM_plan_16 v1 st.1 st.2
noncomputable def fM_plan (M : Mem) : Option (Int32 × Mem) := xlt (up2 M 0 0 0) (fun M58 => xbd (fM_forget  M58) (fun r59 => xbd (fM_held  r59) (fun r60 => xbd (xlp (bM_plan_16 r60) (0, r59)) (fun e16 => fM_plan_74 r60 e16.2))))
set_option maxHeartbeats 4000000 in
set_option maxRecDepth 100000 in
theorem tM_plan (l : Launch) (G : va_G) (c3 : ClassId × ClassId × ClassId) (ad : Nat → Nat) (hd : adI SM ad) (M : Mem) (o1 : Int32) (o2 : Mem) (hf : fM_plan M = some (o1, o2)) : WMet l yM_plan cM_plan 5 (some .int) (rm0_ 3 74) G kl SM c3 ad M [.ref (ad 0)] (some (.int o1)) o2 := by
  generalize hout : (o1, o2) = out at hf
  obtain rfl : out.1 = o1 := by rw [← hout]
  obtain rfl : out.2 = o2 := by rw [← hout]
  clear hout
  refine WMet.of (by decide +kernel) (Nat.le_of_ble_eq_true rfl) (fun p e s m args below meth c ls F hT hK hP hr hlk hl hS => ?_)
  have hx := F.1
  have hb := F.2.1
  have F : CallFix p m c cM_plan 5 s args gw RM := F
  have hown := F.2.2.2.1
  have hl : lv_has ls 5 [(0, .ref (ad 0))] := hl
  revert hP hS
  suffices hall : ∀ (H : Heap) (locs : List Loc), va_P G kl (wd SM c3 ad M) H → va_S (adA SM ad) s.heap H locs → W p l e (rm0_ 3 74) s m args below meth c H locs 0 0 (MQ below (QW G kl SM c3 ad (some (.int out.1)) out.2) args s 0 0 (adA SM ad)) (F0 m 0 ls []) from hall s.heap []
  intro H locs hP hS
  have K241 : ∀ (v2 : Int32) (M : Mem) (H : Heap) (locs : List Loc) (ls : Array Slot), lv_has ls 5 [(2, .int v2)] → va_P G kl (wd SM c3 ad M) H → va_S (adA SM ad) s.heap H locs → fM_plan_241 v2 M = some out → W p l e (rm0_ 3 74) s m args below meth c H locs 0 0 (MQ below (QW G kl SM c3 ad (some (.int out.1)) out.2) args s 0 0 (adA SM ad)) (F0 m 241 ls []) := by
    intro v2 M H locs ls  hl hP hS hf
    unfold fM_plan_241 at hf
    refine lv_iload_n hx hb d_M_plan_241 rfl (lv_at hl 0 rfl) ?_
    exact xw_iret hx hb hr hlk hP hS (Option.some.inj hf) d_M_plan_242
  have K138 : ∀ (v1 : Int32) (M : Mem) (H : Heap) (locs : List Loc) (ls : Array Slot), lv_has ls 5 [(0, .ref (ad 0)), (1, .int v1)] → va_P G kl (wd SM c3 ad M) H → va_S (adA SM ad) s.heap H locs → fM_plan_138 v1 M = some out → W p l e (rm0_ 3 74) s m args below meth c H locs 0 0 (MQ below (QW G kl SM c3 ad (some (.int out.1)) out.2) args s 0 0 (adA SM ad)) (F0 m 138 ls []) := by
    intro v1 M H locs ls  hl hP hS hf
    unfold fM_plan_138 at hf
    refine lv_aload_n hx hb d_M_plan_138 rfl (lv_at hl 0 rfl) ?_
    refine lv_iload_n hx hb d_M_plan_139 rfl (lv_at hl 1 rfl) ?_
    obtain ⟨r1, hr1, hf⟩ := xbd_some hf
    refine xc_wv (rest := []) F hT hK hP hS (fun _ h => h) (tM_least l G c3 ad hd M v1 r1.1 r1.2 hr1) sM_0 rfl wl_M_131 wi_M_least we_M_least wn_M wc_M_least ck_M_least ⟨rfl, rfl⟩ ⟨by decide, by decide⟩ ⟨Nat.le_refl _, Nat.le_refl _⟩ hl.1 rfl (Nat.le_of_ble_eq_true rfl) d_M_plan_140 (fun H locs hP hS _ => ?_)
    refine lv_istore_n (lv' := [(2, .int r1.1), (0, .ref (ad 0)), (1, .int v1)]) hx hb d_M_plan_143 rfl hl (by decide) rfl (fun ls hl => ?_)
    refine lv_iload_n hx hb d_M_plan_144 rfl (lv_at hl 0 rfl) ?_
    refine lv_bipush (v := 99) hx hb d_M_plan_145 rfl ?_
    refine lv_icmp_lt (tgt := 152) hx hb d_M_plan_147 rfl (fun hc => ?_) (fun hc => ?_)
    · have hf := ite_t hc hf
      refine lv_aload_n hx hb d_M_plan_152 rfl (lv_at hl 1 rfl) ?_
      refine lv_iconst (v := 1) hx hb d_M_plan_153 rfl ?_
      obtain ⟨M2, hM2, hf⟩ := xlt_some hf
      refine xr_puti hx hb hT hown hd hK hP hS sM_0 rfl inM tyM tkM nmM 7 (by decide) wf_M_85 rfl fM_0_7 rfl rfl rfl d_M_plan_154 (fun H locs hP hS => ?_)
      rw [hM2] at hP
      refine lv_iconst (v := 0) hx hb d_M_plan_157 rfl ?_
      refine lv_istore_n (lv' := [(3, .int 0), (2, .int r1.1), (0, .ref (ad 0)), (1, .int v1)]) hx hb d_M_plan_158 rfl hl (by decide) rfl (fun ls hl => ?_)
      obtain ⟨e159, he159, hk159⟩ := xbd_some hf
      obtain ⟨n159, hq159⟩ := xlp_n he159
      have LH159 : ∀ (n : Nat) (v3 : Int32) (M : Mem) (H : Heap) (locs : List Loc) (ls : Array Slot), lv_has ls 5 [(0, .ref (ad 0)), (1, .int v1), (2, .int r1.1), (3, .int v3)] → va_P G kl (wd SM c3 ad M) H → va_S (adA SM ad) s.heap H locs → xwh (bM_plan_159 v1 r1.1) n (v3, M) = some e159 → W p l e (rm0_ 3 74) s m args below meth c H locs 0 0 (MQ below (QW G kl SM c3 ad (some (.int out.1)) out.2) args s 0 0 (adA SM ad)) (F0 m 159 ls []) := by
        intro n
        induction n with
        | zero =>
          intro v3 M H locs ls hl hP hS hn
          exact xwh_0 hn
        | succ n ih159 =>
          intro v3 M H locs ls hl hP hS hn159
          obtain ⟨o159, hf, hn159⟩ := xwh_s hn159
          have hf : gM_plan_159 v1 r1.1 v3 M = some o159 := hf
          have K235 : ∀ (v3 : Int32) (M : Mem) (H : Heap) (locs : List Loc) (ls : Array Slot), lv_has ls 5 [(0, .ref (ad 0)), (1, .int v1), (2, .int r1.1), (3, .int v3)] → va_P G kl (wd SM c3 ad M) H → va_S (adA SM ad) s.heap H locs → fM_plan_235 v1 r1.1 v3 M = some o159 → W p l e (rm0_ 3 74) s m args below meth c H locs 0 0 (MQ below (QW G kl SM c3 ad (some (.int out.1)) out.2) args s 0 0 (adA SM ad)) (F0 m 235 ls []) := by
            intro v3 M H locs ls  hl hP hS hf
            unfold fM_plan_235 at hf
            obtain ⟨x3, hx3, hf⟩ := xlt_some hf
            refine lv_iinc (k := 3) (lv' := [(3, .int x3), (0, .ref (ad 0)), (1, .int v1), (2, .int r1.1)]) hx hb d_M_plan_235 hl rfl hx3 (by decide) rfl (fun ls hl => ?_)
            refine lv_goto (tgt := 159) hx hb d_M_plan_238 rfl ?_
            exact ih159 x3 M _ _ _ (lv_sub hl [1, 2, 3, 0] rfl) hP hS (xw_again hf hn159)
          unfold gM_plan_159 at hf
          refine lv_iload_n hx hb d_M_plan_159 rfl (lv_at hl 3 rfl) ?_
          refine lv_bipush (v := 9) hx hb d_M_plan_160 rfl ?_
          refine lv_icmp_ge (tgt := 241) hx hb d_M_plan_162 rfl (fun hc => ?_) (fun hc => ?_)
          · have hf := ite_t hc hf
            have he := xw_exit hf hn159
            subst he
            have hf := hk159
            exact K241 r1.1 M _ _ _  (lv_sub hl [2] rfl) hP hS hf
          · have hf := ite_f hc hf
            refine lv_aload_n hx hb d_M_plan_165 rfl (lv_at hl 0 rfl) ?_
            refine xr_getr hx hb hT hown hK hP sM_0 rfl inM 8 (by decide) wf_M_29 rfl d_M_plan_166 ?_
            refine lv_iload_n hx hb d_M_plan_169 rfl (lv_at hl 3 rfl) ?_
            refine lv_iconst (v := (-1)) hx hb d_M_plan_170 rfl ?_
            obtain ⟨g4, hf⟩ := xgd_some hf
            obtain ⟨M5, hM5, hf⟩ := xlt_some hf
            refine xr_iast hx hb hd hK hP hS sM_7 g4 d_M_plan_171 (fun H locs hP hS => ?_)
            rw [hM5] at hP
            refine lv_iconst (v := 0) hx hb d_M_plan_172 rfl ?_
            refine lv_istore (lv' := [(4, .int 0), (0, .ref (ad 0)), (1, .int v1), (2, .int r1.1), (3, .int v3)]) hx hb d_M_plan_173 hl (by decide) rfl (fun ls hl => ?_)
            obtain ⟨e175, he175, hk175⟩ := xbd_some hf
            obtain ⟨n175, hq175⟩ := xlp_n he175
            have LH175 : ∀ (n : Nat) (v4 : Int32) (M : Mem) (H : Heap) (locs : List Loc) (ls : Array Slot), lv_has ls 5 [(0, .ref (ad 0)), (1, .int v1), (2, .int r1.1), (3, .int v3), (4, .int v4)] → va_P G kl (wd SM c3 ad M) H → va_S (adA SM ad) s.heap H locs → xwh (bM_plan_175 v1 r1.1 v3) n (v4, M) = some e175 → W p l e (rm0_ 3 74) s m args below meth c H locs 0 0 (MQ below (QW G kl SM c3 ad (some (.int out.1)) out.2) args s 0 0 (adA SM ad)) (F0 m 175 ls []) := by
              intro n
              induction n with
              | zero =>
                intro v4 M H locs ls hl hP hS hn
                exact xwh_0 hn
              | succ n ih175 =>
                intro v4 M H locs ls hl hP hS hn175
                obtain ⟨o175, hf, hn175⟩ := xwh_s hn175
                have hf : gM_plan_175 v1 r1.1 v3 v4 M = some o175 := hf
                have K228 : ∀ (v4 s228_0 s228_1 : Int32) (M : Mem) (H : Heap) (locs : List Loc) (ls : Array Slot), lv_has ls 5 [(0, .ref (ad 0)), (1, .int v1), (2, .int r1.1), (3, .int v3), (4, .int v4)] → va_P G kl (wd SM c3 ad M) H → va_S (adA SM ad) s.heap H locs → fM_plan_228 v1 r1.1 v3 v4 s228_0 s228_1 M = some o175 → W p l e (rm0_ 3 74) s m args below meth c H locs 0 0 (MQ below (QW G kl SM c3 ad (some (.int out.1)) out.2) args s 0 0 (adA SM ad)) (F0 m 228 ls [.int s228_0, .int s228_1, .ref (ad 7)]) := by
                  intro v4 s228_0 s228_1 M H locs ls  hl hP hS hf
                  unfold fM_plan_228 at hf
                  obtain ⟨g6, hf⟩ := xgd_some hf
                  obtain ⟨M7, hM7, hf⟩ := xlt_some hf
                  refine xr_iast hx hb hd hK hP hS sM_7 g6 d_M_plan_228 (fun H locs hP hS => ?_)
                  rw [hM7] at hP
                  obtain ⟨x8, hx8, hf⟩ := xlt_some hf
                  refine lv_iinc (k := 4) (lv' := [(4, .int x8), (0, .ref (ad 0)), (1, .int v1), (2, .int r1.1), (3, .int v3)]) hx hb d_M_plan_229 hl rfl hx8 (by decide) rfl (fun ls hl => ?_)
                  refine lv_goto (tgt := 175) hx hb d_M_plan_232 rfl ?_
                  exact ih175 x8 M7 _ _ _ (lv_sub hl [1, 2, 3, 4, 0] rfl) hP hS (xw_again hf hn175)
                unfold gM_plan_175 at hf
                refine lv_iload hx hb d_M_plan_175 (lv_at hl 4 rfl) ?_
                refine lv_bipush (v := 6) hx hb d_M_plan_177 rfl ?_
                refine lv_icmp_ge (tgt := 235) hx hb d_M_plan_179 rfl (fun hc => ?_) (fun hc => ?_)
                · have hf := ite_t hc hf
                  have he := xw_exit hf hn175
                  subst he
                  have hf := hk175
                  exact K235 v3 M _ _ _  (lv_sub hl [0, 1, 2, 3] rfl) hP hS hf
                · have hf := ite_f hc hf
                  refine lv_aload_n hx hb d_M_plan_182 rfl (lv_at hl 0 rfl) ?_
                  refine xr_getr hx hb hT hown hK hP sM_0 rfl inM 8 (by decide) wf_M_29 rfl d_M_plan_183 ?_
                  refine lv_iload_n hx hb d_M_plan_186 rfl (lv_at hl 3 rfl) ?_
                  obtain ⟨g9, hf⟩ := xgd_some hf
                  refine xr_iald hx hb hK hP sM_7 g9 d_M_plan_187 ?_
                  refine lv_iconst (v := (-1)) hx hb d_M_plan_188 rfl ?_
                  refine lv_icmp_ne (tgt := 235) hx hb d_M_plan_189 rfl (fun hc => ?_) (fun hc => ?_)
                  · have hf := ite_f hc hf
                    have he := xw_exit hf hn175
                    subst he
                    have hf := hk175
                    exact K235 v3 M _ _ _  (lv_sub hl [0, 1, 2, 3] rfl) hP hS hf
                  · have hf := ite_t hc hf
                    refine lv_iload_n hx hb d_M_plan_192 rfl (lv_at hl 1 rfl) ?_
                    refine lv_iload_n hx hb d_M_plan_193 rfl (lv_at hl 3 rfl) ?_
                    obtain ⟨r10, hr10, hf⟩ := xbd_some hf
                    refine xc_rs (rest := []) F hT hK hP (tM_has l G c3 ad M v1 v3 r10 hr10) wl_M_114 ws_M_has wn_M wc_M_has ck_M_has ⟨rfl, rfl⟩ ⟨by decide, by decide⟩ ⟨Nat.le_refl _, Nat.le_refl _⟩ hl.1 rfl (Nat.le_of_ble_eq_true rfl) d_M_plan_194 ?_
                    refine lv_if_eq (tgt := 235) hx hb d_M_plan_197 rfl (fun hc => ?_) (fun hc => ?_)
                    · have hf := ite_t hc hf
                      have he := xw_exit hf hn175
                      subst he
                      have hf := hk175
                      exact K235 v3 M _ _ _  (lv_sub hl [0, 1, 2, 3] rfl) hP hS hf
                    · have hf := ite_f hc hf
                      refine lv_aload_n hx hb d_M_plan_200 rfl (lv_at hl 0 rfl) ?_
                      refine xr_getr hx hb hT hown hK hP sM_0 rfl inM 10 (by decide) wf_M_35 rfl d_M_plan_201 ?_
                      refine lv_iload_n hx hb d_M_plan_204 rfl (lv_at hl 3 rfl) ?_
                      refine lv_iload hx hb d_M_plan_205 (lv_at hl 4 rfl) ?_
                      obtain ⟨g11, hf⟩ := xgd_some hf
                      obtain ⟨M12, hM12, hf⟩ := xlt_some hf
                      refine xr_iast hx hb hd hK hP hS sM_9 g11 d_M_plan_207 (fun H locs hP hS => ?_)
                      rw [hM12] at hP
                      refine lv_aload_n hx hb d_M_plan_208 rfl (lv_at hl 0 rfl) ?_
                      refine xr_getr hx hb hT hown hK hP sM_0 rfl inM 8 (by decide) wf_M_29 rfl d_M_plan_209 ?_
                      refine lv_iload_n hx hb d_M_plan_212 rfl (lv_at hl 3 rfl) ?_
                      refine lv_aload_n hx hb d_M_plan_213 rfl (lv_at hl 0 rfl) ?_
                      refine lv_iload_n hx hb d_M_plan_214 rfl (lv_at hl 1 rfl) ?_
                      obtain ⟨r13, hr13, hf⟩ := xbd_some hf
                      refine xc_wv (rest := [.int v3, .ref (ad 7)]) F hT hK hP hS (fun _ h => h) (tM_least l G c3 ad hd M12 v1 r13.1 r13.2 hr13) sM_0 rfl wl_M_131 wi_M_least we_M_least wn_M wc_M_least ck_M_least ⟨rfl, rfl⟩ ⟨by decide, by decide⟩ ⟨Nat.le_refl _, Nat.le_refl _⟩ hl.1 rfl (Nat.le_of_ble_eq_true rfl) d_M_plan_215 (fun H locs hP hS _ => ?_)
                      refine lv_iload_n hx hb d_M_plan_218 rfl (lv_at hl 2 rfl) ?_
                      refine lv_icmp_ne (tgt := 227) hx hb d_M_plan_219 rfl (fun hc => ?_) (fun hc => ?_)
                      · have hf := ite_f hc hf
                        refine lv_iconst (v := (-1)) hx hb d_M_plan_227 rfl ?_
                        exact K228 v4 (-1) v3 r13.2 _ _ _  hl hP hS hf
                      · have hf := ite_t hc hf
                        refine lv_iload hx hb d_M_plan_222 (lv_at hl 4 rfl) ?_
                        refine lv_goto (tgt := 228) hx hb d_M_plan_224 rfl ?_
                        exact K228 v4 v4 v3 r13.2 _ _ _  hl hP hS hf
            exact LH175 n175 0 M5 _ _ _ (lv_sub hl [1, 2, 3, 4, 0] rfl) hP hS hq175
      exact LH159 n159 0 M2 _ _ _ (lv_sub hl [2, 3, 1, 0] rfl) hP hS hq159
    · have hf := ite_f hc hf
      refine lv_iconst (v := (-1)) hx hb d_M_plan_150 rfl ?_
      exact xw_iret hx hb hr hlk hP hS (Option.some.inj hf) d_M_plan_151
  have K74 : ∀ (v1 : Int32) (M : Mem) (H : Heap) (locs : List Loc) (ls : Array Slot), lv_has ls 5 [(0, .ref (ad 0)), (1, .int v1)] → va_P G kl (wd SM c3 ad M) H → va_S (adA SM ad) s.heap H locs → fM_plan_74 v1 M = some out → W p l e (rm0_ 3 74) s m args below meth c H locs 0 0 (MQ below (QW G kl SM c3 ad (some (.int out.1)) out.2) args s 0 0 (adA SM ad)) (F0 m 74 ls []) := by
    intro v1 M H locs ls  hl hP hS hf
    unfold fM_plan_74 at hf
    refine lv_iconst (v := 0) hx hb d_M_plan_74 rfl ?_
    refine lv_istore_n (lv' := [(2, .int 0), (0, .ref (ad 0)), (1, .int v1)]) hx hb d_M_plan_75 rfl hl (by decide) rfl (fun ls hl => ?_)
    obtain ⟨e76, he76, hk76⟩ := xbd_some hf
    obtain ⟨n76, hq76⟩ := xlp_n he76
    have LH76 : ∀ (n : Nat) (v2 : Int32) (M : Mem) (H : Heap) (locs : List Loc) (ls : Array Slot), lv_has ls 5 [(0, .ref (ad 0)), (1, .int v1), (2, .int v2)] → va_P G kl (wd SM c3 ad M) H → va_S (adA SM ad) s.heap H locs → xwh (bM_plan_76 v1) n (v2, M) = some e76 → W p l e (rm0_ 3 74) s m args below meth c H locs 0 0 (MQ below (QW G kl SM c3 ad (some (.int out.1)) out.2) args s 0 0 (adA SM ad)) (F0 m 76 ls []) := by
      intro n
      induction n with
      | zero =>
        intro v2 M H locs ls hl hP hS hn
        exact xwh_0 hn
      | succ n ih76 =>
        intro v2 M H locs ls hl hP hS hn76
        obtain ⟨o76, hf, hn76⟩ := xwh_s hn76
        have hf : gM_plan_76 v1 v2 M = some o76 := hf
        have K132 : ∀ (v2 : Int32) (M : Mem) (H : Heap) (locs : List Loc) (ls : Array Slot), lv_has ls 5 [(0, .ref (ad 0)), (1, .int v1), (2, .int v2)] → va_P G kl (wd SM c3 ad M) H → va_S (adA SM ad) s.heap H locs → fM_plan_132 v1 v2 M = some o76 → W p l e (rm0_ 3 74) s m args below meth c H locs 0 0 (MQ below (QW G kl SM c3 ad (some (.int out.1)) out.2) args s 0 0 (adA SM ad)) (F0 m 132 ls []) := by
          intro v2 M H locs ls  hl hP hS hf
          unfold fM_plan_132 at hf
          obtain ⟨x14, hx14, hf⟩ := xlt_some hf
          refine lv_iinc (k := 2) (lv' := [(2, .int x14), (0, .ref (ad 0)), (1, .int v1)]) hx hb d_M_plan_132 hl rfl hx14 (by decide) rfl (fun ls hl => ?_)
          refine lv_goto (tgt := 76) hx hb d_M_plan_135 rfl ?_
          exact ih76 x14 M _ _ _ (lv_sub hl [1, 2, 0] rfl) hP hS (xw_again hf hn76)
        unfold gM_plan_76 at hf
        refine lv_iload_n hx hb d_M_plan_76 rfl (lv_at hl 2 rfl) ?_
        refine lv_bipush (v := 6) hx hb d_M_plan_77 rfl ?_
        refine lv_icmp_ge (tgt := 138) hx hb d_M_plan_79 rfl (fun hc => ?_) (fun hc => ?_)
        · have hf := ite_t hc hf
          have he := xw_exit hf hn76
          subst he
          have hf := hk76
          exact K138 v1 M _ _ _  (lv_sub hl [0, 1] rfl) hP hS hf
        · have hf := ite_f hc hf
          refine lv_iconst (v := 0) hx hb d_M_plan_82 rfl ?_
          refine lv_istore_n (lv' := [(3, .int 0), (0, .ref (ad 0)), (1, .int v1), (2, .int v2)]) hx hb d_M_plan_83 rfl hl (by decide) rfl (fun ls hl => ?_)
          obtain ⟨e84, he84, hk84⟩ := xbd_some hf
          obtain ⟨n84, hq84⟩ := xlp_n he84
          have LH84 : ∀ (n : Nat) (v3 : Int32) (M : Mem) (H : Heap) (locs : List Loc) (ls : Array Slot), lv_has ls 5 [(0, .ref (ad 0)), (1, .int v1), (2, .int v2), (3, .int v3)] → va_P G kl (wd SM c3 ad M) H → va_S (adA SM ad) s.heap H locs → xwh (bM_plan_84 v1 v2) n (v3, M) = some e84 → W p l e (rm0_ 3 74) s m args below meth c H locs 0 0 (MQ below (QW G kl SM c3 ad (some (.int out.1)) out.2) args s 0 0 (adA SM ad)) (F0 m 84 ls []) := by
            intro n
            induction n with
            | zero =>
              intro v3 M H locs ls hl hP hS hn
              exact xwh_0 hn
            | succ n ih84 =>
              intro v3 M H locs ls hl hP hS hn84
              obtain ⟨o84, hf, hn84⟩ := xwh_s hn84
              have hf : gM_plan_84 v1 v2 v3 M = some o84 := hf
              have K125 : ∀ (v3 s125_0 s125_1 : Int32) (M : Mem) (H : Heap) (locs : List Loc) (ls : Array Slot), lv_has ls 5 [(0, .ref (ad 0)), (1, .int v1), (2, .int v2), (3, .int v3)] → va_P G kl (wd SM c3 ad M) H → va_S (adA SM ad) s.heap H locs → fM_plan_125 v1 v2 v3 s125_0 s125_1 M = some o84 → W p l e (rm0_ 3 74) s m args below meth c H locs 0 0 (MQ below (QW G kl SM c3 ad (some (.int out.1)) out.2) args s 0 0 (adA SM ad)) (F0 m 125 ls [.int s125_0, .int s125_1, .ref (ad 10)]) := by
                intro v3 s125_0 s125_1 M H locs ls  hl hP hS hf
                unfold fM_plan_125 at hf
                obtain ⟨g15, hf⟩ := xgd_some hf
                obtain ⟨M16, hM16, hf⟩ := xlt_some hf
                refine xr_zast hx hb hd hK hP hS sM_10 g15 d_M_plan_125 (fun H locs hP hS => ?_)
                rw [hM16] at hP
                obtain ⟨x17, hx17, hf⟩ := xlt_some hf
                refine lv_iinc (k := 3) (lv' := [(3, .int x17), (0, .ref (ad 0)), (1, .int v1), (2, .int v2)]) hx hb d_M_plan_126 hl rfl hx17 (by decide) rfl (fun ls hl => ?_)
                refine lv_goto (tgt := 84) hx hb d_M_plan_129 rfl ?_
                exact ih84 x17 M16 _ _ _ (lv_sub hl [1, 2, 3, 0] rfl) hP hS (xw_again hf hn84)
              have K124 : ∀ (v3 s124_0 : Int32) (M : Mem) (H : Heap) (locs : List Loc) (ls : Array Slot), lv_has ls 5 [(0, .ref (ad 0)), (1, .int v1), (2, .int v2), (3, .int v3)] → va_P G kl (wd SM c3 ad M) H → va_S (adA SM ad) s.heap H locs → fM_plan_124 v1 v2 v3 s124_0 M = some o84 → W p l e (rm0_ 3 74) s m args below meth c H locs 0 0 (MQ below (QW G kl SM c3 ad (some (.int out.1)) out.2) args s 0 0 (adA SM ad)) (F0 m 124 ls [.int s124_0, .ref (ad 10)]) := by
                intro v3 s124_0 M H locs ls  hl hP hS hf
                unfold fM_plan_124 at hf
                refine lv_iconst (v := 0) hx hb d_M_plan_124 rfl ?_
                exact K125 v3 0 s124_0 M _ _ _  hl hP hS hf
              unfold gM_plan_84 at hf
              refine lv_iload_n hx hb d_M_plan_84 rfl (lv_at hl 3 rfl) ?_
              refine lv_sipush (v := 512) hx hb d_M_plan_85 rfl ?_
              refine lv_icmp_ge (tgt := 132) hx hb d_M_plan_88 rfl (fun hc => ?_) (fun hc => ?_)
              · have hf := ite_t hc hf
                have he := xw_exit hf hn84
                subst he
                have hf := hk84
                exact K132 v2 M _ _ _  (lv_sub hl [0, 1, 2] rfl) hP hS hf
              · have hf := ite_f hc hf
                refine lv_aload_n hx hb d_M_plan_91 rfl (lv_at hl 0 rfl) ?_
                refine xr_getr hx hb hT hown hK hP sM_0 rfl inM 11 (by decide) wf_M_38 rfl d_M_plan_92 ?_
                refine lv_sipush (v := 512) hx hb d_M_plan_95 rfl ?_
                refine lv_iload_n hx hb d_M_plan_98 rfl (lv_at hl 2 rfl) ?_
                refine lv_imul hx hb d_M_plan_99 ?_
                refine lv_iload_n hx hb d_M_plan_100 rfl (lv_at hl 3 rfl) ?_
                refine lv_iadd hx hb d_M_plan_101 ?_
                refine lv_iload_n hx hb d_M_plan_102 rfl (lv_at hl 3 rfl) ?_
                refine lv_iload_n hx hb d_M_plan_103 rfl (lv_at hl 1 rfl) ?_
                refine lv_iconst (v := (-1)) hx hb d_M_plan_104 rfl ?_
                refine lv_ixor hx hb d_M_plan_105 ?_
                refine lv_iand hx hb d_M_plan_106 ?_
                refine lv_if_ne (tgt := 124) hx hb d_M_plan_107 rfl (fun hc => ?_) (fun hc => ?_)
                · have hf := ite_f hc hf
                  exact K124 v3 ((512 * v2) + v3) M _ _ _  hl hP hS hf
                · have hf := ite_t hc hf
                  refine lv_aload_n hx hb d_M_plan_110 rfl (lv_at hl 0 rfl) ?_
                  refine lv_iload_n hx hb d_M_plan_111 rfl (lv_at hl 2 rfl) ?_
                  refine lv_iload_n hx hb d_M_plan_112 rfl (lv_at hl 3 rfl) ?_
                  refine lv_iload_n hx hb d_M_plan_113 rfl (lv_at hl 1 rfl) ?_
                  obtain ⟨r18, hr18, hf⟩ := xbd_some hf
                  refine xc_rv (rest := [.int ((512 * v2) + v3), .ref (ad 10)]) F hT hK hP (tM_fits l G c3 ad M v2 v3 v1 r18 hr18) sM_0 rfl wl_M_128 wi_M_fits we_M_fits wn_M wc_M_fits ck_M_fits ⟨rfl, rfl⟩ ⟨by decide, by decide⟩ ⟨Nat.le_refl _, Nat.le_refl _⟩ hl.1 rfl (Nat.le_of_ble_eq_true rfl) d_M_plan_114 ?_
                  refine lv_if_eq (tgt := 124) hx hb d_M_plan_117 rfl (fun hc => ?_) (fun hc => ?_)
                  · have hf := ite_t hc hf
                    exact K124 v3 ((512 * v2) + v3) M _ _ _  hl hP hS hf
                  · have hf := ite_f hc hf
                    refine lv_iconst (v := 1) hx hb d_M_plan_120 rfl ?_
                    refine lv_goto (tgt := 125) hx hb d_M_plan_121 rfl ?_
                    exact K125 v3 1 ((512 * v2) + v3) M _ _ _  hl hP hS hf
          exact LH84 n84 0 M _ _ _ (lv_sub hl [1, 2, 3, 0] rfl) hP hS hq84
    exact LH76 n76 0 M _ _ _ (lv_sub hl [1, 2, 0] rfl) hP hS hq76
  unfold fM_plan at hf
  refine lv_aload_n hx hb d_M_plan_0 rfl (lv_at hl 0 rfl) ?_
  refine lv_iconst (v := 0) hx hb d_M_plan_1 rfl ?_
  obtain ⟨M19, hM19, hf⟩ := xlt_some hf
  refine xr_puti hx hb hT hown hd hK hP hS sM_0 rfl inM tyM tkM nmM 0 (by decide) wf_M_81 rfl fM_0_0 rfl rfl rfl d_M_plan_2 (fun H locs hP hS => ?_)
  rw [hM19] at hP
  refine lv_aload_n hx hb d_M_plan_5 rfl (lv_at hl 0 rfl) ?_
  obtain ⟨r20, hr20, hf⟩ := xbd_some hf
  refine xc_wv (rest := []) F hT hK hP hS (fun _ h => h) (tM_forget l G c3 ad hd M19  r20 hr20) sM_0 rfl wl_M_101 wi_M_forget we_M_forget wn_M wc_M_forget ck_M_forget ⟨rfl, rfl⟩ ⟨by decide, by decide⟩ ⟨Nat.le_refl _, Nat.le_refl _⟩ hl.1 rfl (Nat.le_of_ble_eq_true rfl) d_M_plan_6 (fun H locs hP hS _ => ?_)
  refine lv_aload_n hx hb d_M_plan_9 rfl (lv_at hl 0 rfl) ?_
  obtain ⟨r21, hr21, hf⟩ := xbd_some hf
  refine xc_rv (rest := []) F hT hK hP (tM_held l G c3 ad r20  r21 hr21) sM_0 rfl wl_M_124 wi_M_held we_M_held wn_M wc_M_held ck_M_held ⟨rfl, rfl⟩ ⟨by decide, by decide⟩ ⟨Nat.le_refl _, Nat.le_refl _⟩ hl.1 rfl (Nat.le_of_ble_eq_true rfl) d_M_plan_10 ?_
  refine lv_istore_n (lv' := [(1, .int r21), (0, .ref (ad 0))]) hx hb d_M_plan_13 rfl hl (by decide) rfl (fun ls hl => ?_)
  refine lv_iconst (v := 0) hx hb d_M_plan_14 rfl ?_
  refine lv_istore_n (lv' := [(2, .int 0), (1, .int r21), (0, .ref (ad 0))]) hx hb d_M_plan_15 rfl hl (by decide) rfl (fun ls hl => ?_)
  obtain ⟨e16, he16, hk16⟩ := xbd_some hf
  obtain ⟨n16, hq16⟩ := xlp_n he16
  have LH16 : ∀ (n : Nat) (v2 : Int32) (M : Mem) (H : Heap) (locs : List Loc) (ls : Array Slot), lv_has ls 5 [(0, .ref (ad 0)), (1, .int r21), (2, .int v2)] → va_P G kl (wd SM c3 ad M) H → va_S (adA SM ad) s.heap H locs → xwh (bM_plan_16 r21) n (v2, M) = some e16 → W p l e (rm0_ 3 74) s m args below meth c H locs 0 0 (MQ below (QW G kl SM c3 ad (some (.int out.1)) out.2) args s 0 0 (adA SM ad)) (F0 m 16 ls []) := by
    intro n
    induction n with
    | zero =>
      intro v2 M H locs ls hl hP hS hn
      exact xwh_0 hn
    | succ n ih16 =>
      intro v2 M H locs ls hl hP hS hn16
      obtain ⟨o16, hf, hn16⟩ := xwh_s hn16
      have hf : gM_plan_16 r21 v2 M = some o16 := hf
      have K68 : ∀ (v2 : Int32) (M : Mem) (H : Heap) (locs : List Loc) (ls : Array Slot), lv_has ls 5 [(0, .ref (ad 0)), (1, .int r21), (2, .int v2)] → va_P G kl (wd SM c3 ad M) H → va_S (adA SM ad) s.heap H locs → fM_plan_68 r21 v2 M = some o16 → W p l e (rm0_ 3 74) s m args below meth c H locs 0 0 (MQ below (QW G kl SM c3 ad (some (.int out.1)) out.2) args s 0 0 (adA SM ad)) (F0 m 68 ls []) := by
        intro v2 M H locs ls  hl hP hS hf
        unfold fM_plan_68 at hf
        obtain ⟨x22, hx22, hf⟩ := xlt_some hf
        refine lv_iinc (k := 2) (lv' := [(2, .int x22), (0, .ref (ad 0)), (1, .int r21)]) hx hb d_M_plan_68 hl rfl hx22 (by decide) rfl (fun ls hl => ?_)
        refine lv_goto (tgt := 16) hx hb d_M_plan_71 rfl ?_
        exact ih16 x22 M _ _ _ (lv_sub hl [1, 2, 0] rfl) hP hS (xw_again hf hn16)
      unfold gM_plan_16 at hf
      refine lv_iload_n hx hb d_M_plan_16 rfl (lv_at hl 2 rfl) ?_
      refine lv_bipush (v := 9) hx hb d_M_plan_17 rfl ?_
      refine lv_icmp_ge (tgt := 74) hx hb d_M_plan_19 rfl (fun hc => ?_) (fun hc => ?_)
      · have hf := ite_t hc hf
        have he := xw_exit hf hn16
        subst he
        have hf := hk16
        exact K74 r21 M _ _ _  (lv_sub hl [0, 1] rfl) hP hS hf
      · have hf := ite_f hc hf
        refine lv_aload_n hx hb d_M_plan_22 rfl (lv_at hl 0 rfl) ?_
        refine xr_getr hx hb hT hown hK hP sM_0 rfl inM 10 (by decide) wf_M_35 rfl d_M_plan_23 ?_
        refine lv_iload_n hx hb d_M_plan_26 rfl (lv_at hl 2 rfl) ?_
        refine lv_iconst (v := (-1)) hx hb d_M_plan_27 rfl ?_
        obtain ⟨g23, hf⟩ := xgd_some hf
        obtain ⟨M24, hM24, hf⟩ := xlt_some hf
        refine xr_iast hx hb hd hK hP hS sM_9 g23 d_M_plan_28 (fun H locs hP hS => ?_)
        rw [hM24] at hP
        refine lv_iconst (v := 0) hx hb d_M_plan_29 rfl ?_
        refine lv_istore_n (lv' := [(3, .int 0), (0, .ref (ad 0)), (1, .int r21), (2, .int v2)]) hx hb d_M_plan_30 rfl hl (by decide) rfl (fun ls hl => ?_)
        obtain ⟨e31, he31, hk31⟩ := xbd_some hf
        obtain ⟨n31, hq31⟩ := xlp_n he31
        have LH31 : ∀ (n : Nat) (v3 : Int32) (M : Mem) (H : Heap) (locs : List Loc) (ls : Array Slot), lv_has ls 5 [(0, .ref (ad 0)), (1, .int r21), (2, .int v2), (3, .int v3)] → va_P G kl (wd SM c3 ad M) H → va_S (adA SM ad) s.heap H locs → xwh (bM_plan_31 r21 v2) n (v3, M) = some e31 → W p l e (rm0_ 3 74) s m args below meth c H locs 0 0 (MQ below (QW G kl SM c3 ad (some (.int out.1)) out.2) args s 0 0 (adA SM ad)) (F0 m 31 ls []) := by
          intro n
          induction n with
          | zero =>
            intro v3 M H locs ls hl hP hS hn
            exact xwh_0 hn
          | succ n ih31 =>
            intro v3 M H locs ls hl hP hS hn31
            obtain ⟨o31, hf, hn31⟩ := xwh_s hn31
            have hf : gM_plan_31 r21 v2 v3 M = some o31 := hf
            have K61 : ∀ (v3 s61_0 s61_1 : Int32) (M : Mem) (H : Heap) (locs : List Loc) (ls : Array Slot), lv_has ls 5 [(0, .ref (ad 0)), (1, .int r21), (2, .int v2), (3, .int v3)] → va_P G kl (wd SM c3 ad M) H → va_S (adA SM ad) s.heap H locs → fM_plan_61 r21 v2 v3 s61_0 s61_1 M = some o31 → W p l e (rm0_ 3 74) s m args below meth c H locs 0 0 (MQ below (QW G kl SM c3 ad (some (.int out.1)) out.2) args s 0 0 (adA SM ad)) (F0 m 61 ls [.int s61_0, .int s61_1, .ref (ad 12)]) := by
              intro v3 s61_0 s61_1 M H locs ls  hl hP hS hf
              unfold fM_plan_61 at hf
              obtain ⟨g25, hf⟩ := xgd_some hf
              obtain ⟨M26, hM26, hf⟩ := xlt_some hf
              refine xr_zast hx hb hd hK hP hS sM_12 g25 d_M_plan_61 (fun H locs hP hS => ?_)
              rw [hM26] at hP
              obtain ⟨x27, hx27, hf⟩ := xlt_some hf
              refine lv_iinc (k := 3) (lv' := [(3, .int x27), (0, .ref (ad 0)), (1, .int r21), (2, .int v2)]) hx hb d_M_plan_62 hl rfl hx27 (by decide) rfl (fun ls hl => ?_)
              refine lv_goto (tgt := 31) hx hb d_M_plan_65 rfl ?_
              exact ih31 x27 M26 _ _ _ (lv_sub hl [1, 2, 3, 0] rfl) hP hS (xw_again hf hn31)
            unfold gM_plan_31 at hf
            refine lv_iload_n hx hb d_M_plan_31 rfl (lv_at hl 3 rfl) ?_
            refine lv_bipush (v := 9) hx hb d_M_plan_32 rfl ?_
            refine lv_icmp_ge (tgt := 68) hx hb d_M_plan_34 rfl (fun hc => ?_) (fun hc => ?_)
            · have hf := ite_t hc hf
              have he := xw_exit hf hn31
              subst he
              have hf := hk31
              exact K68 v2 M _ _ _  (lv_sub hl [0, 1, 2] rfl) hP hS hf
            · have hf := ite_f hc hf
              refine lv_aload_n hx hb d_M_plan_37 rfl (lv_at hl 0 rfl) ?_
              refine xr_getr hx hb hT hown hK hP sM_0 rfl inM 13 (by decide) wf_M_44 rfl d_M_plan_38 ?_
              refine lv_bipush (v := 9) hx hb d_M_plan_41 rfl ?_
              refine lv_iload_n hx hb d_M_plan_43 rfl (lv_at hl 2 rfl) ?_
              refine lv_imul hx hb d_M_plan_44 ?_
              refine lv_iload_n hx hb d_M_plan_45 rfl (lv_at hl 3 rfl) ?_
              refine lv_iadd hx hb d_M_plan_46 ?_
              refine lv_aload_n hx hb d_M_plan_47 rfl (lv_at hl 0 rfl) ?_
              refine lv_iload_n hx hb d_M_plan_48 rfl (lv_at hl 2 rfl) ?_
              refine lv_iload_n hx hb d_M_plan_49 rfl (lv_at hl 3 rfl) ?_
              obtain ⟨r28, hr28, hf⟩ := xbd_some hf
              refine xc_rv (rest := [.int ((9 * v2) + v3), .ref (ad 12)]) F hT hK hP (tM_common l G c3 ad M v2 v3 r28 hr28) sM_0 rfl wl_M_110 wi_M_common we_M_common wn_M wc_M_common ck_M_common ⟨rfl, rfl⟩ ⟨by decide, by decide⟩ ⟨Nat.le_refl _, Nat.le_refl _⟩ hl.1 rfl (Nat.le_of_ble_eq_true rfl) d_M_plan_50 ?_
              refine lv_if_le (tgt := 60) hx hb d_M_plan_53 rfl (fun hc => ?_) (fun hc => ?_)
              · have hf := ite_t hc hf
                refine lv_iconst (v := 0) hx hb d_M_plan_60 rfl ?_
                exact K61 v3 0 ((9 * v2) + v3) M _ _ _  hl hP hS hf
              · have hf := ite_f hc hf
                refine lv_iconst (v := 1) hx hb d_M_plan_56 rfl ?_
                refine lv_goto (tgt := 61) hx hb d_M_plan_57 rfl ?_
                exact K61 v3 1 ((9 * v2) + v3) M _ _ _  hl hP hS hf
        exact LH31 n31 0 M24 _ _ _ (lv_sub hl [1, 2, 3, 0] rfl) hP hS hq31
  exact LH16 n16 0 r20 _ _ _ (lv_sub hl [2, 1, 0] rfl) hP hS hq16
noncomputable def fM_planned_40 (s40_0 : Int32) (M : Mem) : Option (Int32 × Mem) := some (s40_0, M)
noncomputable def fM_planned_28 (M : Mem) : Option (Int32 × Mem) := if (M 0 0) = 0 then (fM_planned_40 (-1) M) else (fM_planned_40 0 M)
noncomputable def fM_planned (a1 : Int32) (M : Mem) : Option (Int32 × Mem) := xbd (fM_isPaper a1) (fun r1 => xbd (fM_goes r1 1 M) (fun r2 => if r2.1 = 0 then (fM_planned_28  r2.2) else (if (r2.2 0 7) = 0 then (fM_planned_28  r2.2) else (xgd (vp_in a1 9) (fM_planned_40 (r2.2 7 a1.toNatClampNeg) r2.2)))))
set_option maxHeartbeats 4000000 in
set_option maxRecDepth 100000 in
theorem tM_planned (l : Launch) (G : va_G) (c3 : ClassId × ClassId × ClassId) (ad : Nat → Nat) (hd : adI SM ad) (M : Mem) (a1 : Int32) (o1 : Int32) (o2 : Mem) (hf : fM_planned a1 M = some (o1, o2)) : WMet l yM_planned cM_planned 2 (some .int) (rm0_ 1 22) G kl SM c3 ad M [.ref (ad 0), .int a1] (some (.int o1)) o2 := by
  generalize hout : (o1, o2) = out at hf
  obtain rfl : out.1 = o1 := by rw [← hout]
  obtain rfl : out.2 = o2 := by rw [← hout]
  clear hout
  refine WMet.of (by decide +kernel) (Nat.le_of_ble_eq_true rfl) (fun p e s m args below meth c ls F hT hK hP hr hlk hl hS => ?_)
  have hx := F.1
  have hb := F.2.1
  have F : CallFix p m c cM_planned 2 s args gw RM := F
  have hown := F.2.2.2.1
  have hl : lv_has ls 2 [(0, .ref (ad 0)), (1, .int a1)] := hl
  revert hP hS
  suffices hall : ∀ (H : Heap) (locs : List Loc), va_P G kl (wd SM c3 ad M) H → va_S (adA SM ad) s.heap H locs → W p l e (rm0_ 1 22) s m args below meth c H locs 0 0 (MQ below (QW G kl SM c3 ad (some (.int out.1)) out.2) args s 0 0 (adA SM ad)) (F0 m 0 ls []) from hall s.heap []
  intro H locs hP hS
  have K40 : ∀ (s40_0 : Int32) (M : Mem) (H : Heap) (locs : List Loc) (ls : Array Slot), lv_has ls 2 [] → va_P G kl (wd SM c3 ad M) H → va_S (adA SM ad) s.heap H locs → fM_planned_40 s40_0 M = some out → W p l e (rm0_ 1 22) s m args below meth c H locs 0 0 (MQ below (QW G kl SM c3 ad (some (.int out.1)) out.2) args s 0 0 (adA SM ad)) (F0 m 40 ls [.int s40_0]) := by
    intro s40_0 M H locs ls  hl hP hS hf
    unfold fM_planned_40 at hf
    exact xw_iret hx hb hr hlk hP hS (Option.some.inj hf) d_M_planned_40
  have K28 : ∀ (M : Mem) (H : Heap) (locs : List Loc) (ls : Array Slot), lv_has ls 2 [(0, .ref (ad 0))] → va_P G kl (wd SM c3 ad M) H → va_S (adA SM ad) s.heap H locs → fM_planned_28  M = some out → W p l e (rm0_ 1 22) s m args below meth c H locs 0 0 (MQ below (QW G kl SM c3 ad (some (.int out.1)) out.2) args s 0 0 (adA SM ad)) (F0 m 28 ls []) := by
    intro  M H locs ls  hl hP hS hf
    unfold fM_planned_28 at hf
    refine lv_aload_n hx hb d_M_planned_28 rfl (lv_at hl 0 rfl) ?_
    refine xr_geti hx hb hT hown hK hP sM_0 rfl inM 0 (by decide) wf_M_81 rfl d_M_planned_29 ?_
    refine lv_if_ne (tgt := 39) hx hb d_M_planned_32 rfl (fun hc => ?_) (fun hc => ?_)
    · have hf := ite_f hc hf
      refine lv_iconst (v := 0) hx hb d_M_planned_39 rfl ?_
      exact K40 0 M _ _ _  (lv_sub hl [] rfl) hP hS hf
    · have hf := ite_t hc hf
      refine lv_iconst (v := (-1)) hx hb d_M_planned_35 rfl ?_
      refine lv_goto (tgt := 40) hx hb d_M_planned_36 rfl ?_
      exact K40 (-1) M _ _ _  (lv_sub hl [] rfl) hP hS hf
  unfold fM_planned at hf
  refine lv_aload_n hx hb d_M_planned_0 rfl (lv_at hl 0 rfl) ?_
  refine lv_iload_n hx hb d_M_planned_1 rfl (lv_at hl 1 rfl) ?_
  obtain ⟨r1, hr1, hf⟩ := xbd_some hf
  refine xc_rs (rest := [.ref (ad 0)]) F hT hK hP (tM_isPaper l G c3 ad M a1 r1 hr1) wl_M_89 ws_M_isPaper wn_M wc_M_isPaper ck_M_isPaper ⟨rfl, rfl⟩ ⟨by decide, by decide⟩ ⟨Nat.le_refl _, Nat.le_refl _⟩ hl.1 rfl (Nat.le_of_ble_eq_true rfl) d_M_planned_2 ?_
  refine lv_iconst (v := 1) hx hb d_M_planned_5 rfl ?_
  obtain ⟨r2, hr2, hf⟩ := xbd_some hf
  refine xc_wv (rest := []) F hT hK hP hS (fun _ h => h) (tM_goes l G c3 ad hd M r1 1 r2.1 r2.2 hr2) sM_0 rfl wl_M_97 wi_M_goes we_M_goes wn_M wc_M_goes ck_M_goes ⟨rfl, rfl⟩ ⟨by decide, by decide⟩ ⟨Nat.le_refl _, Nat.le_refl _⟩ hl.1 rfl (Nat.le_of_ble_eq_true rfl) d_M_planned_6 (fun H locs hP hS _ => ?_)
  refine lv_if_eq (tgt := 28) hx hb d_M_planned_9 rfl (fun hc => ?_) (fun hc => ?_)
  · have hf := ite_t hc hf
    exact K28  r2.2 _ _ _  (lv_sub hl [0] rfl) hP hS hf
  · have hf := ite_f hc hf
    refine lv_aload_n hx hb d_M_planned_12 rfl (lv_at hl 0 rfl) ?_
    refine xr_geti hx hb hT hown hK hP sM_0 rfl inM 7 (by decide) wf_M_85 rfl d_M_planned_13 ?_
    refine lv_if_eq (tgt := 28) hx hb d_M_planned_16 rfl (fun hc => ?_) (fun hc => ?_)
    · have hf := ite_t hc hf
      exact K28  r2.2 _ _ _  (lv_sub hl [0] rfl) hP hS hf
    · have hf := ite_f hc hf
      refine lv_aload_n hx hb d_M_planned_19 rfl (lv_at hl 0 rfl) ?_
      refine xr_getr hx hb hT hown hK hP sM_0 rfl inM 8 (by decide) wf_M_29 rfl d_M_planned_20 ?_
      refine lv_iload_n hx hb d_M_planned_23 rfl (lv_at hl 1 rfl) ?_
      obtain ⟨g3, hf⟩ := xgd_some hf
      refine xr_iald hx hb hK hP sM_7 g3 d_M_planned_24 ?_
      refine lv_goto (tgt := 40) hx hb d_M_planned_25 rfl ?_
      exact K40 (r2.2 7 a1.toNatClampNeg) r2.2 _ _ _  (lv_sub hl [] rfl) hP hS hf
noncomputable def fM_paperOf_47 (M : Mem) : Option (Int32) := some (-1)
noncomputable def fM_paperOf_41 (v1 v2 v3 : Int32) (M : Mem) : Option (((Int32) ⊕ (Int32)) ⊕ (Int32)) := xlt (v3 + 1) (fun x1 => some (.inr x1))
noncomputable def gM_paperOf_2 (v1 v2 : Int32) (M : Mem) (v3 : Int32) : Option (((Int32) ⊕ (Int32)) ⊕ (Int32)) := if 9 ≤ v3 then (some (.inl (.inr v3))) else (if (M 0 7) = 0 then (fM_paperOf_41 v1 v2 v3 M) else (xlt (((9 * v1) + v3)) (fun x2 => xgd (vp_in x2 360) (if (M 4 x2.toNatClampNeg) = 0 then (fM_paperOf_41 v1 v2 v3 M) else (xgd (vp_in v3 9) (if (M 7 v3.toNatClampNeg) = v2 then (some (.inl (.inl v3))) else (fM_paperOf_41 v1 v2 v3 M)))))))
noncomputable def bM_paperOf_2 (v1 v2 : Int32) (M : Mem) : Int32 → Option (((Int32) ⊕ (Int32)) ⊕ (Int32)) := fun st => gM_paperOf_2 v1 v2 M st
noncomputable def fM_paperOf (a1 a2 : Int32) (M : Mem) : Option (Int32) := xbd (xlp (bM_paperOf_2 a1 a2 M) 0) (fun e2 => Sum.elim (fun r2 => some r2) (fun t2 => fM_paperOf_47  M) e2)
set_option maxHeartbeats 4000000 in
set_option maxRecDepth 100000 in
theorem tM_paperOf (l : Launch) (G : va_G) (c3 : ClassId × ClassId × ClassId) (ad : Nat → Nat) (M : Mem) (a1 a2 : Int32) (out : Int32) (hf : fM_paperOf a1 a2 M = some out) : RMet l yM_paperOf cM_paperOf 4 (some .int) (rm0_ 0 0) G kl SM c3 ad M [.ref (ad 0), .int a1, .int a2] out := by
  refine RMet.of (by decide +kernel) (Nat.le_of_ble_eq_true rfl) (fun p e s m args below meth c ls F hT hK hP hr hlk hl => ?_)
  have hx := F.1
  have hb := F.2.1
  have F : CallFix p m c cM_paperOf 4 s args gw RM := F
  have hown := F.2.2.2.1
  have hl : lv_has ls 4 [(0, .ref (ad 0)), (1, .int a1), (2, .int a2)] := hl
  have K47 : ∀ (ls : Array Slot), lv_has ls 4 [] → fM_paperOf_47  M = some out → W p l e (rm0_ 0 0) s m args below meth c s.heap [] 0 0 (MQ below (QcRead out) args s 0 0 (fun _ => False)) (F0 m 47 ls []) := by
    intro  ls  hl hf
    unfold fM_paperOf_47 at hf
    refine lv_iconst (v := (-1)) hx hb d_M_paperOf_47 rfl ?_
    exact xr_iret hx hb hr hlk (Option.some.inj hf) d_M_paperOf_48
  unfold fM_paperOf at hf
  refine lv_iconst (v := 0) hx hb d_M_paperOf_0 rfl ?_
  refine lv_istore_n (lv' := [(3, .int 0), (0, .ref (ad 0)), (1, .int a1), (2, .int a2)]) hx hb d_M_paperOf_1 rfl hl (by decide) rfl (fun ls hl => ?_)
  obtain ⟨e2, he2, hk2⟩ := xbd_some hf
  obtain ⟨n2, hq2⟩ := xlp_n he2
  have LH2 : ∀ (n : Nat) (v3 : Int32) (ls : Array Slot), lv_has ls 4 [(0, .ref (ad 0)), (1, .int a1), (2, .int a2), (3, .int v3)] → xwh (bM_paperOf_2 a1 a2 M) n v3 = some e2 → W p l e (rm0_ 0 0) s m args below meth c s.heap [] 0 0 (MQ below (QcRead out) args s 0 0 (fun _ => False)) (F0 m 2 ls []) := by
    intro n
    induction n with
    | zero =>
      intro v3 ls hl hn
      exact xwh_0 hn
    | succ n ih2 =>
      intro v3 ls hl hn2
      obtain ⟨o2, hf, hn2⟩ := xwh_s hn2
      have hf : gM_paperOf_2 a1 a2 M v3 = some o2 := hf
      have K41 : ∀ (v3 : Int32) (ls : Array Slot), lv_has ls 4 [(0, .ref (ad 0)), (1, .int a1), (2, .int a2), (3, .int v3)] → fM_paperOf_41 a1 a2 v3 M = some o2 → W p l e (rm0_ 0 0) s m args below meth c s.heap [] 0 0 (MQ below (QcRead out) args s 0 0 (fun _ => False)) (F0 m 41 ls []) := by
        intro v3 ls  hl hf
        unfold fM_paperOf_41 at hf
        obtain ⟨x1, hx1, hf⟩ := xlt_some hf
        refine lv_iinc (k := 3) (lv' := [(3, .int x1), (0, .ref (ad 0)), (1, .int a1), (2, .int a2)]) hx hb d_M_paperOf_41 hl rfl hx1 (by decide) rfl (fun ls hl => ?_)
        refine lv_goto (tgt := 2) hx hb d_M_paperOf_44 rfl ?_
        exact ih2 x1 _ (lv_sub hl [1, 2, 3, 0] rfl) (xw_again hf hn2)
      unfold gM_paperOf_2 at hf
      refine lv_iload_n hx hb d_M_paperOf_2 rfl (lv_at hl 3 rfl) ?_
      refine lv_bipush (v := 9) hx hb d_M_paperOf_3 rfl ?_
      refine lv_icmp_ge (tgt := 47) hx hb d_M_paperOf_5 rfl (fun hc => ?_) (fun hc => ?_)
      · have hf := ite_t hc hf
        have he := xw_exit hf hn2
        subst he
        have hf := hk2
        exact K47  _  (lv_sub hl [] rfl) hf
      · have hf := ite_f hc hf
        refine lv_aload_n hx hb d_M_paperOf_8 rfl (lv_at hl 0 rfl) ?_
        refine xr_geti hx hb hT hown hK hP sM_0 rfl inM 7 (by decide) wf_M_85 rfl d_M_paperOf_9 ?_
        refine lv_if_eq (tgt := 41) hx hb d_M_paperOf_12 rfl (fun hc => ?_) (fun hc => ?_)
        · have hf := ite_t hc hf
          exact K41 v3 _  hl hf
        · have hf := ite_f hc hf
          refine lv_aload_n hx hb d_M_paperOf_15 rfl (lv_at hl 0 rfl) ?_
          refine xr_getr hx hb hT hown hK hP sM_0 rfl inM 4 (by decide) wf_M_19 rfl d_M_paperOf_16 ?_
          refine lv_bipush (v := 9) hx hb d_M_paperOf_19 rfl ?_
          refine lv_iload_n hx hb d_M_paperOf_21 rfl (lv_at hl 1 rfl) ?_
          refine lv_imul hx hb d_M_paperOf_22 ?_
          refine lv_iload_n hx hb d_M_paperOf_23 rfl (lv_at hl 3 rfl) ?_
          refine lv_iadd hx hb d_M_paperOf_24 ?_
          obtain ⟨x2, hx2, hf⟩ := xlt_some hf
          refine xr_name hx2 ?_
          obtain ⟨g3, hf⟩ := xgd_some hf
          refine xr_zald hx hb hK hP sM_4 g3 d_M_paperOf_25 ?_
          refine lv_if_eq (tgt := 41) hx hb d_M_paperOf_26 rfl (fun hc => ?_) (fun hc => ?_)
          · have hf := ite_t hc hf
            exact K41 v3 _  hl hf
          · have hf := ite_f hc hf
            refine lv_aload_n hx hb d_M_paperOf_29 rfl (lv_at hl 0 rfl) ?_
            refine xr_getr hx hb hT hown hK hP sM_0 rfl inM 8 (by decide) wf_M_29 rfl d_M_paperOf_30 ?_
            refine lv_iload_n hx hb d_M_paperOf_33 rfl (lv_at hl 3 rfl) ?_
            obtain ⟨g4, hf⟩ := xgd_some hf
            refine xr_iald hx hb hK hP sM_7 g4 d_M_paperOf_34 ?_
            refine lv_iload_n hx hb d_M_paperOf_35 rfl (lv_at hl 2 rfl) ?_
            refine lv_icmp_ne (tgt := 41) hx hb d_M_paperOf_36 rfl (fun hc => ?_) (fun hc => ?_)
            · have hf := ite_f hc hf
              exact K41 v3 _  hl hf
            · have hf := ite_t hc hf
              refine lv_iload_n hx hb d_M_paperOf_39 rfl (lv_at hl 3 rfl) ?_
              have he := xw_exit hf hn2
              subst he
              have hf := hk2
              exact xr_iret hx hb hr hlk (Option.some.inj hf) d_M_paperOf_40
  exact LH2 n2 0 _ (lv_sub hl [1, 2, 3, 0] rfl) hq2
noncomputable def fM_strain_64 (v1 : Int32) (M : Mem) : Option (Int32 × Mem) := some (v1, M)
noncomputable def fM_strain_58 (v1 v2 : Int32) (M : Mem) : Option ((Int32 × Int32) ⊕ (Int32 × Int32)) := xlt (v2 + 1) (fun x1 => some (.inr (v1, x1)))
noncomputable def fM_strain_51 (v2 v3 s51_0 : Int32) (M : Mem) : Option ((Int32 × Int32) ⊕ (Int32 × Int32)) := xlt (v3 + 1) (fun x2 => some (.inr (s51_0, x2)))
noncomputable def fM_strain_50 (v1 v2 v3 : Int32) (M : Mem) : Option ((Int32 × Int32) ⊕ (Int32 × Int32)) := fM_strain_51 v2 v3 v1 M
noncomputable def gM_strain_17 (v2 : Int32) (M : Mem) (v1 v3 : Int32) : Option ((Int32 × Int32) ⊕ (Int32 × Int32)) := if 5 ≤ v3 then (some (.inl (v1, v3))) else (xbd (fM_paperOf v2 v3 M) (fun r3 => if r3 = (-1) then (fM_strain_50 v1 v2 v3 M) else (xbd (fM_paperOf v2 (v3 + 1) M) (fun r4 => if r4 = (-1) then (fM_strain_50 v1 v2 v3 M) else (fM_strain_51 v2 v3 (v1 + 1) M)))))
noncomputable def bM_strain_17 (v2 : Int32) (M : Mem) : Int32 × Int32 → Option ((Int32 × Int32) ⊕ (Int32 × Int32)) := fun st => gM_strain_17 v2 M st.1 st.2
noncomputable def gM_strain_9 (M : Mem) (v1 v2 : Int32) : Option ((Int32 × Int32) ⊕ (Int32 × Int32)) := if 40 ≤ v2 then (some (.inl (v1, v2))) else (xbd (xlp (bM_strain_17 v2 M) (v1, 0)) (fun e17 => fM_strain_58 e17.1 v2 M))
noncomputable def bM_strain_9 (M : Mem) : Int32 × Int32 → Option ((Int32 × Int32) ⊕ (Int32 × Int32)) := fun st => gM_strain_9 M st.1 st.2
noncomputable def fM_strain (M : Mem) : Option (Int32 × Mem) := xlt (up2 M 0 0 0) (fun M8 => xbd (xlp (bM_strain_9  M8) (0, 0)) (fun e9 => fM_strain_64 e9.1 M8))
set_option maxHeartbeats 4000000 in
set_option maxRecDepth 100000 in
theorem tM_strain (l : Launch) (G : va_G) (c3 : ClassId × ClassId × ClassId) (ad : Nat → Nat) (hd : adI SM ad) (M : Mem) (o1 : Int32) (o2 : Mem) (hf : fM_strain M = some (o1, o2)) : WMet l yM_strain cM_strain 4 (some .int) (rm0_ 1 23) G kl SM c3 ad M [.ref (ad 0)] (some (.int o1)) o2 := by
  generalize hout : (o1, o2) = out at hf
  obtain rfl : out.1 = o1 := by rw [← hout]
  obtain rfl : out.2 = o2 := by rw [← hout]
  clear hout
  refine WMet.of (by decide +kernel) (Nat.le_of_ble_eq_true rfl) (fun p e s m args below meth c ls F hT hK hP hr hlk hl hS => ?_)
  have hx := F.1
  have hb := F.2.1
  have F : CallFix p m c cM_strain 4 s args gw RM := F
  have hown := F.2.2.2.1
  have hl : lv_has ls 4 [(0, .ref (ad 0))] := hl
  revert hP hS
  suffices hall : ∀ (H : Heap) (locs : List Loc), va_P G kl (wd SM c3 ad M) H → va_S (adA SM ad) s.heap H locs → W p l e (rm0_ 1 23) s m args below meth c H locs 0 0 (MQ below (QW G kl SM c3 ad (some (.int out.1)) out.2) args s 0 0 (adA SM ad)) (F0 m 0 ls []) from hall s.heap []
  intro H locs hP hS
  have K64 : ∀ (v1 : Int32) (M : Mem) (H : Heap) (locs : List Loc) (ls : Array Slot), lv_has ls 4 [(1, .int v1)] → va_P G kl (wd SM c3 ad M) H → va_S (adA SM ad) s.heap H locs → fM_strain_64 v1 M = some out → W p l e (rm0_ 1 23) s m args below meth c H locs 0 0 (MQ below (QW G kl SM c3 ad (some (.int out.1)) out.2) args s 0 0 (adA SM ad)) (F0 m 64 ls []) := by
    intro v1 M H locs ls  hl hP hS hf
    unfold fM_strain_64 at hf
    refine lv_iload_n hx hb d_M_strain_64 rfl (lv_at hl 0 rfl) ?_
    exact xw_iret hx hb hr hlk hP hS (Option.some.inj hf) d_M_strain_65
  unfold fM_strain at hf
  refine lv_aload_n hx hb d_M_strain_0 rfl (lv_at hl 0 rfl) ?_
  refine lv_iconst (v := 0) hx hb d_M_strain_1 rfl ?_
  obtain ⟨M1, hM1, hf⟩ := xlt_some hf
  refine xr_puti hx hb hT hown hd hK hP hS sM_0 rfl inM tyM tkM nmM 0 (by decide) wf_M_81 rfl fM_0_0 rfl rfl rfl d_M_strain_2 (fun H locs hP hS => ?_)
  rw [hM1] at hP
  refine lv_iconst (v := 0) hx hb d_M_strain_5 rfl ?_
  refine lv_istore_n (lv' := [(1, .int 0), (0, .ref (ad 0))]) hx hb d_M_strain_6 rfl hl (by decide) rfl (fun ls hl => ?_)
  refine lv_iconst (v := 0) hx hb d_M_strain_7 rfl ?_
  refine lv_istore_n (lv' := [(2, .int 0), (1, .int 0), (0, .ref (ad 0))]) hx hb d_M_strain_8 rfl hl (by decide) rfl (fun ls hl => ?_)
  obtain ⟨e9, he9, hk9⟩ := xbd_some hf
  obtain ⟨n9, hq9⟩ := xlp_n he9
  have LH9 : ∀ (n : Nat) (v1 v2 : Int32) (ls : Array Slot), lv_has ls 4 [(0, .ref (ad 0)), (1, .int v1), (2, .int v2)] → xwh (bM_strain_9  M1) n (v1, v2) = some e9 → W p l e (rm0_ 1 23) s m args below meth c H locs 0 0 (MQ below (QW G kl SM c3 ad (some (.int out.1)) out.2) args s 0 0 (adA SM ad)) (F0 m 9 ls []) := by
    intro n
    induction n with
    | zero =>
      intro v1 v2 ls hl hn
      exact xwh_0 hn
    | succ n ih9 =>
      intro v1 v2 ls hl hn9
      obtain ⟨o9, hf, hn9⟩ := xwh_s hn9
      have hf : gM_strain_9 M1 v1 v2 = some o9 := hf
      have K58 : ∀ (v1 v2 : Int32) (ls : Array Slot), lv_has ls 4 [(0, .ref (ad 0)), (1, .int v1), (2, .int v2)] → fM_strain_58 v1 v2 M1 = some o9 → W p l e (rm0_ 1 23) s m args below meth c H locs 0 0 (MQ below (QW G kl SM c3 ad (some (.int out.1)) out.2) args s 0 0 (adA SM ad)) (F0 m 58 ls []) := by
        intro v1 v2 ls  hl hf
        unfold fM_strain_58 at hf
        obtain ⟨x2, hx2, hf⟩ := xlt_some hf
        refine lv_iinc (k := 2) (lv' := [(2, .int x2), (0, .ref (ad 0)), (1, .int v1)]) hx hb d_M_strain_58 hl rfl hx2 (by decide) rfl (fun ls hl => ?_)
        refine lv_goto (tgt := 9) hx hb d_M_strain_61 rfl ?_
        exact ih9 v1 x2 _ (lv_sub hl [1, 2, 0] rfl) (xw_again hf hn9)
      unfold gM_strain_9 at hf
      refine lv_iload_n hx hb d_M_strain_9 rfl (lv_at hl 2 rfl) ?_
      refine lv_bipush (v := 40) hx hb d_M_strain_10 rfl ?_
      refine lv_icmp_ge (tgt := 64) hx hb d_M_strain_12 rfl (fun hc => ?_) (fun hc => ?_)
      · have hf := ite_t hc hf
        have he := xw_exit hf hn9
        subst he
        have hf := hk9
        exact K64 v1 M1 _ _ _  (lv_sub hl [1] rfl) hP hS hf
      · have hf := ite_f hc hf
        refine lv_iconst (v := 0) hx hb d_M_strain_15 rfl ?_
        refine lv_istore_n (lv' := [(3, .int 0), (0, .ref (ad 0)), (1, .int v1), (2, .int v2)]) hx hb d_M_strain_16 rfl hl (by decide) rfl (fun ls hl => ?_)
        obtain ⟨e17, he17, hk17⟩ := xbd_some hf
        obtain ⟨n17, hq17⟩ := xlp_n he17
        have LH17 : ∀ (n : Nat) (v1 v3 : Int32) (ls : Array Slot), lv_has ls 4 [(0, .ref (ad 0)), (1, .int v1), (2, .int v2), (3, .int v3)] → xwh (bM_strain_17 v2 M1) n (v1, v3) = some e17 → W p l e (rm0_ 1 23) s m args below meth c H locs 0 0 (MQ below (QW G kl SM c3 ad (some (.int out.1)) out.2) args s 0 0 (adA SM ad)) (F0 m 17 ls []) := by
          intro n
          induction n with
          | zero =>
            intro v1 v3 ls hl hn
            exact xwh_0 hn
          | succ n ih17 =>
            intro v1 v3 ls hl hn17
            obtain ⟨o17, hf, hn17⟩ := xwh_s hn17
            have hf : gM_strain_17 v2 M1 v1 v3 = some o17 := hf
            have K51 : ∀ (v3 s51_0 : Int32) (ls : Array Slot), lv_has ls 4 [(0, .ref (ad 0)), (2, .int v2), (3, .int v3)] → fM_strain_51 v2 v3 s51_0 M1 = some o17 → W p l e (rm0_ 1 23) s m args below meth c H locs 0 0 (MQ below (QW G kl SM c3 ad (some (.int out.1)) out.2) args s 0 0 (adA SM ad)) (F0 m 51 ls [.int s51_0]) := by
              intro v3 s51_0 ls  hl hf
              unfold fM_strain_51 at hf
              refine lv_istore_n (lv' := [(1, .int s51_0), (0, .ref (ad 0)), (2, .int v2), (3, .int v3)]) hx hb d_M_strain_51 rfl hl (by decide) rfl (fun ls hl => ?_)
              obtain ⟨x3, hx3, hf⟩ := xlt_some hf
              refine lv_iinc (k := 3) (lv' := [(3, .int x3), (1, .int s51_0), (0, .ref (ad 0)), (2, .int v2)]) hx hb d_M_strain_52 hl rfl hx3 (by decide) rfl (fun ls hl => ?_)
              refine lv_goto (tgt := 17) hx hb d_M_strain_55 rfl ?_
              exact ih17 s51_0 x3 _ (lv_sub hl [2, 1, 3, 0] rfl) (xw_again hf hn17)
            have K50 : ∀ (v1 v3 : Int32) (ls : Array Slot), lv_has ls 4 [(0, .ref (ad 0)), (1, .int v1), (2, .int v2), (3, .int v3)] → fM_strain_50 v1 v2 v3 M1 = some o17 → W p l e (rm0_ 1 23) s m args below meth c H locs 0 0 (MQ below (QW G kl SM c3 ad (some (.int out.1)) out.2) args s 0 0 (adA SM ad)) (F0 m 50 ls []) := by
              intro v1 v3 ls  hl hf
              unfold fM_strain_50 at hf
              refine lv_iload_n hx hb d_M_strain_50 rfl (lv_at hl 1 rfl) ?_
              exact K51 v3 v1 _  (lv_sub hl [0, 2, 3] rfl) hf
            unfold gM_strain_17 at hf
            refine lv_iload_n hx hb d_M_strain_17 rfl (lv_at hl 3 rfl) ?_
            refine lv_iconst (v := 5) hx hb d_M_strain_18 rfl ?_
            refine lv_icmp_ge (tgt := 58) hx hb d_M_strain_19 rfl (fun hc => ?_) (fun hc => ?_)
            · have hf := ite_t hc hf
              have he := xw_exit hf hn17
              subst he
              have hf := hk17
              exact K58 v1 v2 _  (lv_sub hl [0, 1, 2] rfl) hf
            · have hf := ite_f hc hf
              refine lv_aload_n hx hb d_M_strain_22 rfl (lv_at hl 0 rfl) ?_
              refine lv_iload_n hx hb d_M_strain_23 rfl (lv_at hl 2 rfl) ?_
              refine lv_iload_n hx hb d_M_strain_24 rfl (lv_at hl 3 rfl) ?_
              obtain ⟨r4, hr4, hf⟩ := xbd_some hf
              refine xc_rv (rest := []) F hT hK hP (tM_paperOf l G c3 ad M1 v2 v3 r4 hr4) sM_0 rfl wl_M_135 wi_M_paperOf we_M_paperOf wn_M wc_M_paperOf ck_M_paperOf ⟨rfl, rfl⟩ ⟨by decide, by decide⟩ ⟨Nat.le_refl _, Nat.le_refl _⟩ hl.1 rfl (Nat.le_of_ble_eq_true rfl) d_M_strain_25 ?_
              refine lv_iconst (v := (-1)) hx hb d_M_strain_28 rfl ?_
              refine lv_icmp_eq (tgt := 50) hx hb d_M_strain_29 rfl (fun hc => ?_) (fun hc => ?_)
              · have hf := ite_t hc hf
                exact K50 v1 v3 _  hl hf
              · have hf := ite_f hc hf
                refine lv_aload_n hx hb d_M_strain_32 rfl (lv_at hl 0 rfl) ?_
                refine lv_iload_n hx hb d_M_strain_33 rfl (lv_at hl 2 rfl) ?_
                refine lv_iload_n hx hb d_M_strain_34 rfl (lv_at hl 3 rfl) ?_
                refine lv_iconst (v := 1) hx hb d_M_strain_35 rfl ?_
                refine lv_iadd hx hb d_M_strain_36 ?_
                obtain ⟨r5, hr5, hf⟩ := xbd_some hf
                refine xc_rv (rest := []) F hT hK hP (tM_paperOf l G c3 ad M1 v2 (v3 + 1) r5 hr5) sM_0 rfl wl_M_135 wi_M_paperOf we_M_paperOf wn_M wc_M_paperOf ck_M_paperOf ⟨rfl, rfl⟩ ⟨by decide, by decide⟩ ⟨Nat.le_refl _, Nat.le_refl _⟩ hl.1 rfl (Nat.le_of_ble_eq_true rfl) d_M_strain_37 ?_
                refine lv_iconst (v := (-1)) hx hb d_M_strain_40 rfl ?_
                refine lv_icmp_eq (tgt := 50) hx hb d_M_strain_41 rfl (fun hc => ?_) (fun hc => ?_)
                · have hf := ite_t hc hf
                  exact K50 v1 v3 _  hl hf
                · have hf := ite_f hc hf
                  refine lv_iload_n hx hb d_M_strain_44 rfl (lv_at hl 1 rfl) ?_
                  refine lv_iconst (v := 1) hx hb d_M_strain_45 rfl ?_
                  refine lv_iadd hx hb d_M_strain_46 ?_
                  refine lv_goto (tgt := 51) hx hb d_M_strain_47 rfl ?_
                  exact K51 v3 (v1 + 1) _  (lv_sub hl [0, 2, 3] rfl) hf
        exact LH17 n17 v1 0 _ (lv_sub hl [1, 2, 3, 0] rfl) hq17
  exact LH9 n9 0 0 _ (lv_sub hl [2, 1, 0] rfl) hq9
noncomputable def fM_isRoom_14 (s14_0 : Int32) : Option (Int32) := xgd (s14_0 = 0 ∨ s14_0 = 1) (some s14_0)
noncomputable def fM_isRoom_13 : Option (Int32) := fM_isRoom_14 0
noncomputable def fM_isRoom (a0 : Int32) : Option (Int32) := if a0 < 0 then (fM_isRoom_13) else (if 4 ≤ a0 then (fM_isRoom_13) else (fM_isRoom_14 1))
set_option maxHeartbeats 4000000 in
set_option maxRecDepth 100000 in
theorem tM_isRoom (l : Launch) (G : va_G) (c3 : ClassId × ClassId × ClassId) (ad : Nat → Nat) (M : Mem) (a0 : Int32) (out : Int32) (hf : fM_isRoom a0 = some out) : RMet l yM_isRoom cM_isRoom 1 (some .boolean) (rm0_ 0 0) G kl SM c3 ad M [.int a0] out := by
  refine RMet.of (by decide +kernel) (Nat.le_of_ble_eq_true rfl) (fun p e s m args below meth c ls F hT hK hP hr hlk hl => ?_)
  have hx := F.1
  have hb := F.2.1
  have F : CallFix p m c cM_isRoom 1 s args gw RM := F
  have hown := F.2.2.2.1
  have hl : lv_has ls 1 [(0, .int a0)] := hl
  have K14 : ∀ (s14_0 : Int32) (ls : Array Slot), lv_has ls 1 [] → fM_isRoom_14 s14_0 = some out → W p l e (rm0_ 0 0) s m args below meth c s.heap [] 0 0 (MQ below (QcRead out) args s 0 0 (fun _ => False)) (F0 m 14 ls [.int s14_0]) := by
    intro s14_0 ls  hl hf
    unfold fM_isRoom_14 at hf
    obtain ⟨z1, hf⟩ := xgd_some hf
    exact xr_zret hx hb hr hlk z1 (Option.some.inj hf) d_M_isRoom_14
  have K13 : ∀ (ls : Array Slot), lv_has ls 1 [] → fM_isRoom_13 = some out → W p l e (rm0_ 0 0) s m args below meth c s.heap [] 0 0 (MQ below (QcRead out) args s 0 0 (fun _ => False)) (F0 m 13 ls []) := by
    intro  ls  hl hf
    unfold fM_isRoom_13 at hf
    refine lv_iconst (v := 0) hx hb d_M_isRoom_13 rfl ?_
    exact K14 0 _  hl hf
  unfold fM_isRoom at hf
  refine lv_iload_n hx hb d_M_isRoom_0 rfl (lv_at hl 0 rfl) ?_
  refine lv_if_lt (tgt := 13) hx hb d_M_isRoom_1 rfl (fun hc => ?_) (fun hc => ?_)
  · have hf := ite_t hc hf
    exact K13  _  (lv_sub hl [] rfl) hf
  · have hf := ite_f hc hf
    refine lv_iload_n hx hb d_M_isRoom_4 rfl (lv_at hl 0 rfl) ?_
    refine lv_iconst (v := 4) hx hb d_M_isRoom_5 rfl ?_
    refine lv_icmp_ge (tgt := 13) hx hb d_M_isRoom_6 rfl (fun hc => ?_) (fun hc => ?_)
    · have hf := ite_t hc hf
      exact K13  _  (lv_sub hl [] rfl) hf
    · have hf := ite_f hc hf
      refine lv_iconst (v := 1) hx hb d_M_isRoom_9 rfl ?_
      refine lv_goto (tgt := 14) hx hb d_M_isRoom_10 rfl ?_
      exact K14 1 _  (lv_sub hl [] rfl) hf
noncomputable def fM_room_147 (M : Mem) : Option (Mem) := some M
noncomputable def gM_room_125 (v5 : Int32) (M : Mem) : Option ((Int32 × Mem) ⊕ (Int32 × Mem)) := if 240 ≤ v5 then (some (.inl (v5, M))) else (xgd (vp_in v5 240) (xlt (up2 M 21 v5.toNatClampNeg (vp_nar .boolean 0)) (fun M2 => xlt (v5 + 1) (fun x3 => some (.inr (x3, M2))))))
noncomputable def bM_room_125 : Int32 × Mem → Option ((Int32 × Mem) ⊕ (Int32 × Mem)) := fun st => gM_room_125 st.1 st.2
noncomputable def fM_room_122 (M : Mem) : Option (Mem) := xbd (xlp (bM_room_125) (0, M)) (fun e125 => fM_room_147  e125.2)
noncomputable def fM_room_116 (v1 v5 : Int32) (M : Mem) : Option ((Int32 × Mem) ⊕ (Int32 × Mem)) := xlt (v5 + 1) (fun x7 => some (.inr (x7, M)))
noncomputable def gM_room_88 (v1 v5 : Int32) (v6 : Int32) (M : Mem) : Option ((Int32 × Mem) ⊕ (Int32 × Mem)) := if 6 ≤ v6 then (some (.inl (v6, M))) else (xgd (vp_in ((144 * v6) + v5) 864) (xlt (up2 M 17 (((144 * v6) + v5).toNatClampNeg) 0) (fun M9 => xlt (v6 + 1) (fun x10 => some (.inr (x10, M9))))))
noncomputable def bM_room_88 (v1 v5 : Int32) : Int32 × Mem → Option ((Int32 × Mem) ⊕ (Int32 × Mem)) := fun st => gM_room_88 v1 v5 st.1 st.2
noncomputable def gM_room_65 (v1 : Int32) (v5 : Int32) (M : Mem) : Option ((Int32 × Mem) ⊕ (Int32 × Mem)) := if ((36 * v1) + 36) ≤ v5 then (some (.inl (v5, M))) else (xgd (vp_in v5 144) (xlt (up2 M 16 v5.toNatClampNeg (vp_nar .boolean 0)) (fun M12 => xbd (xlp (bM_room_88 v1 v5) (0, M12)) (fun e88 => fM_room_116 v1 v5 e88.2))))
noncomputable def bM_room_65 (v1 : Int32) : Int32 × Mem → Option ((Int32 × Mem) ⊕ (Int32 × Mem)) := fun st => gM_room_65 v1 st.1 st.2
noncomputable def fM_room_30 (v1 v2 v3 v4 s30_0 s30_1 : Int32) (M : Mem) : Option (Mem) := xbd (fM_goes s30_1 s30_0 M) (fun r16 => if r16.1 = 0 then (some r16.2) else (xgd (vp_in v1 4) (xlt (up2 r16.2 13 v1.toNatClampNeg v2) (fun M18 => xgd (vp_in v1 4) (xlt (up2 M18 14 v1.toNatClampNeg v3) (fun M20 => xgd (vp_in v1 4) (xlt (up2 M20 15 v1.toNatClampNeg (vp_nar .boolean v4)) (fun M22 => xlt ((36 * v1)) (fun x23 => xbd (xlp (bM_room_65 v1) (x23, M22)) (fun e65 => fM_room_122  e65.2))))))))))
noncomputable def fM_room_29 (v1 v2 v3 v4 s29_0 : Int32) (M : Mem) : Option (Mem) := fM_room_30 v1 v2 v3 v4 0 s29_0 M
noncomputable def fM_room (a1 a2 a3 a4 : Int32) (M : Mem) : Option (Mem) := xbd (fM_isRoom a1) (fun r30 => xbd (fM_within a2 0 6) (fun r31 => if r31 = 0 then (fM_room_29 a1 a2 a3 a4 r30 M) else (xbd (fM_within a3 0 6) (fun r32 => if r32 = 0 then (fM_room_29 a1 a2 a3 a4 r30 M) else (fM_room_30 a1 a2 a3 a4 1 r30 M)))))
set_option maxHeartbeats 4000000 in
set_option maxRecDepth 100000 in
theorem tM_room (l : Launch) (G : va_G) (c3 : ClassId × ClassId × ClassId) (ad : Nat → Nat) (hd : adI SM ad) (M : Mem) (a1 a2 a3 a4 : Int32) (out : Mem) (hf : fM_room a1 a2 a3 a4 M = some out) : WMet l yM_room cM_room 7 none (rm0_ 1 22) G kl SM c3 ad M [.ref (ad 0), .int a1, .int a2, .int a3, .int a4] none out := by
  refine WMet.of (by decide +kernel) (Nat.le_of_ble_eq_true rfl) (fun p e s m args below meth c ls F hT hK hP hr hlk hl hS => ?_)
  have hx := F.1
  have hb := F.2.1
  have F : CallFix p m c cM_room 7 s args gw RM := F
  have hown := F.2.2.2.1
  have hl : lv_has ls 7 [(0, .ref (ad 0)), (1, .int a1), (2, .int a2), (3, .int a3), (4, .int a4)] := hl
  revert hP hS
  suffices hall : ∀ (H : Heap) (locs : List Loc), va_P G kl (wd SM c3 ad M) H → va_S (adA SM ad) s.heap H locs → W p l e (rm0_ 1 22) s m args below meth c H locs 0 0 (MQ below (QW G kl SM c3 ad none out) args s 0 0 (adA SM ad)) (F0 m 0 ls []) from hall s.heap []
  intro H locs hP hS
  have K147 : ∀ (M : Mem) (H : Heap) (locs : List Loc) (ls : Array Slot), lv_has ls 7 [] → va_P G kl (wd SM c3 ad M) H → va_S (adA SM ad) s.heap H locs → fM_room_147  M = some out → W p l e (rm0_ 1 22) s m args below meth c H locs 0 0 (MQ below (QW G kl SM c3 ad none out) args s 0 0 (adA SM ad)) (F0 m 147 ls []) := by
    intro  M H locs ls  hl hP hS hf
    unfold fM_room_147 at hf
    exact xw_vret hx hb hr hlk hP hS (Option.some.inj hf) d_M_room_147
  have K122 : ∀ (M : Mem) (H : Heap) (locs : List Loc) (ls : Array Slot), lv_has ls 7 [(0, .ref (ad 0))] → va_P G kl (wd SM c3 ad M) H → va_S (adA SM ad) s.heap H locs → fM_room_122  M = some out → W p l e (rm0_ 1 22) s m args below meth c H locs 0 0 (MQ below (QW G kl SM c3 ad none out) args s 0 0 (adA SM ad)) (F0 m 122 ls []) := by
    intro  M H locs ls  hl hP hS hf
    unfold fM_room_122 at hf
    refine lv_iconst (v := 0) hx hb d_M_room_122 rfl ?_
    refine lv_istore (lv' := [(5, .int 0), (0, .ref (ad 0))]) hx hb d_M_room_123 hl (by decide) rfl (fun ls hl => ?_)
    obtain ⟨e125, he125, hk125⟩ := xbd_some hf
    obtain ⟨n125, hq125⟩ := xlp_n he125
    have LH125 : ∀ (n : Nat) (v5 : Int32) (M : Mem) (H : Heap) (locs : List Loc) (ls : Array Slot), lv_has ls 7 [(0, .ref (ad 0)), (5, .int v5)] → va_P G kl (wd SM c3 ad M) H → va_S (adA SM ad) s.heap H locs → xwh (bM_room_125) n (v5, M) = some e125 → W p l e (rm0_ 1 22) s m args below meth c H locs 0 0 (MQ below (QW G kl SM c3 ad none out) args s 0 0 (adA SM ad)) (F0 m 125 ls []) := by
      intro n
      induction n with
      | zero =>
        intro v5 M H locs ls hl hP hS hn
        exact xwh_0 hn
      | succ n ih125 =>
        intro v5 M H locs ls hl hP hS hn125
        obtain ⟨o125, hf, hn125⟩ := xwh_s hn125
        have hf : gM_room_125 v5 M = some o125 := hf
        unfold gM_room_125 at hf
        refine lv_iload hx hb d_M_room_125 (lv_at hl 1 rfl) ?_
        refine lv_sipush (v := 240) hx hb d_M_room_127 rfl ?_
        refine lv_icmp_ge (tgt := 147) hx hb d_M_room_130 rfl (fun hc => ?_) (fun hc => ?_)
        · have hf := ite_t hc hf
          have he := xw_exit hf hn125
          subst he
          have hf := hk125
          exact K147  M _ _ _  (lv_sub hl [] rfl) hP hS hf
        · have hf := ite_f hc hf
          refine lv_aload_n hx hb d_M_room_133 rfl (lv_at hl 0 rfl) ?_
          refine xr_getr hx hb hT hown hK hP sM_0 rfl inM 22 (by decide) wf_M_71 rfl d_M_room_134 ?_
          refine lv_iload hx hb d_M_room_137 (lv_at hl 1 rfl) ?_
          refine lv_iconst (v := 0) hx hb d_M_room_139 rfl ?_
          obtain ⟨g1, hf⟩ := xgd_some hf
          obtain ⟨M2, hM2, hf⟩ := xlt_some hf
          refine xr_zast hx hb hd hK hP hS sM_21 g1 d_M_room_140 (fun H locs hP hS => ?_)
          rw [hM2] at hP
          obtain ⟨x3, hx3, hf⟩ := xlt_some hf
          refine lv_iinc (k := 1) (lv' := [(5, .int x3), (0, .ref (ad 0))]) hx hb d_M_room_141 hl rfl hx3 (by decide) rfl (fun ls hl => ?_)
          refine lv_goto (tgt := 125) hx hb d_M_room_144 rfl ?_
          exact ih125 x3 M2 _ _ _ (lv_sub hl [1, 0] rfl) hP hS (xw_again hf hn125)
    exact LH125 n125 0 M _ _ _ (lv_sub hl [1, 0] rfl) hP hS hq125
  have K30 : ∀ (v1 v2 v3 v4 s30_0 s30_1 : Int32) (M : Mem) (H : Heap) (locs : List Loc) (ls : Array Slot), lv_has ls 7 [(0, .ref (ad 0)), (1, .int v1), (2, .int v2), (3, .int v3), (4, .int v4)] → va_P G kl (wd SM c3 ad M) H → va_S (adA SM ad) s.heap H locs → fM_room_30 v1 v2 v3 v4 s30_0 s30_1 M = some out → W p l e (rm0_ 1 22) s m args below meth c H locs 0 0 (MQ below (QW G kl SM c3 ad none out) args s 0 0 (adA SM ad)) (F0 m 30 ls [.int s30_0, .int s30_1, .ref (ad 0)]) := by
    intro v1 v2 v3 v4 s30_0 s30_1 M H locs ls  hl hP hS hf
    unfold fM_room_30 at hf
    obtain ⟨r4, hr4, hf⟩ := xbd_some hf
    refine xc_wv (rest := []) F hT hK hP hS (fun _ h => h) (tM_goes l G c3 ad hd M s30_1 s30_0 r4.1 r4.2 hr4) sM_0 rfl wl_M_97 wi_M_goes we_M_goes wn_M wc_M_goes ck_M_goes ⟨rfl, rfl⟩ ⟨by decide, by decide⟩ ⟨Nat.le_refl _, Nat.le_refl _⟩ hl.1 rfl (Nat.le_of_ble_eq_true rfl) d_M_room_30 (fun H locs hP hS _ => ?_)
    refine lv_if_ne (tgt := 37) hx hb d_M_room_33 rfl (fun hc => ?_) (fun hc => ?_)
    · have hf := ite_f hc hf
      refine lv_aload_n hx hb d_M_room_37 rfl (lv_at hl 0 rfl) ?_
      refine xr_getr hx hb hT hown hK hP sM_0 rfl inM 14 (by decide) wf_M_47 rfl d_M_room_38 ?_
      refine lv_iload_n hx hb d_M_room_41 rfl (lv_at hl 1 rfl) ?_
      refine lv_iload_n hx hb d_M_room_42 rfl (lv_at hl 2 rfl) ?_
      obtain ⟨g5, hf⟩ := xgd_some hf
      obtain ⟨M6, hM6, hf⟩ := xlt_some hf
      refine xr_iast hx hb hd hK hP hS sM_13 g5 d_M_room_43 (fun H locs hP hS => ?_)
      rw [hM6] at hP
      refine lv_aload_n hx hb d_M_room_44 rfl (lv_at hl 0 rfl) ?_
      refine xr_getr hx hb hT hown hK hP sM_0 rfl inM 15 (by decide) wf_M_50 rfl d_M_room_45 ?_
      refine lv_iload_n hx hb d_M_room_48 rfl (lv_at hl 1 rfl) ?_
      refine lv_iload_n hx hb d_M_room_49 rfl (lv_at hl 3 rfl) ?_
      obtain ⟨g7, hf⟩ := xgd_some hf
      obtain ⟨M8, hM8, hf⟩ := xlt_some hf
      refine xr_iast hx hb hd hK hP hS sM_14 g7 d_M_room_50 (fun H locs hP hS => ?_)
      rw [hM8] at hP
      refine lv_aload_n hx hb d_M_room_51 rfl (lv_at hl 0 rfl) ?_
      refine xr_getr hx hb hT hown hK hP sM_0 rfl inM 16 (by decide) wf_M_53 rfl d_M_room_52 ?_
      refine lv_iload_n hx hb d_M_room_55 rfl (lv_at hl 1 rfl) ?_
      refine lv_iload hx hb d_M_room_56 (lv_at hl 4 rfl) ?_
      obtain ⟨g9, hf⟩ := xgd_some hf
      obtain ⟨M10, hM10, hf⟩ := xlt_some hf
      refine xr_zast hx hb hd hK hP hS sM_15 g9 d_M_room_58 (fun H locs hP hS => ?_)
      rw [hM10] at hP
      refine lv_bipush (v := 36) hx hb d_M_room_59 rfl ?_
      refine lv_iload_n hx hb d_M_room_61 rfl (lv_at hl 1 rfl) ?_
      refine lv_imul hx hb d_M_room_62 ?_
      obtain ⟨x11, hx11, hf⟩ := xlt_some hf
      refine xr_name hx11 ?_
      refine lv_istore (lv' := [(5, .int x11), (0, .ref (ad 0)), (1, .int v1), (2, .int v2), (3, .int v3), (4, .int v4)]) hx hb d_M_room_63 hl (by decide) rfl (fun ls hl => ?_)
      obtain ⟨e65, he65, hk65⟩ := xbd_some hf
      obtain ⟨n65, hq65⟩ := xlp_n he65
      have LH65 : ∀ (n : Nat) (v5 : Int32) (M : Mem) (H : Heap) (locs : List Loc) (ls : Array Slot), lv_has ls 7 [(0, .ref (ad 0)), (1, .int v1), (5, .int v5)] → va_P G kl (wd SM c3 ad M) H → va_S (adA SM ad) s.heap H locs → xwh (bM_room_65 v1) n (v5, M) = some e65 → W p l e (rm0_ 1 22) s m args below meth c H locs 0 0 (MQ below (QW G kl SM c3 ad none out) args s 0 0 (adA SM ad)) (F0 m 65 ls []) := by
        intro n
        induction n with
        | zero =>
          intro v5 M H locs ls hl hP hS hn
          exact xwh_0 hn
        | succ n ih65 =>
          intro v5 M H locs ls hl hP hS hn65
          obtain ⟨o65, hf, hn65⟩ := xwh_s hn65
          have hf : gM_room_65 v1 v5 M = some o65 := hf
          have K116 : ∀ (v5 : Int32) (M : Mem) (H : Heap) (locs : List Loc) (ls : Array Slot), lv_has ls 7 [(0, .ref (ad 0)), (1, .int v1), (5, .int v5)] → va_P G kl (wd SM c3 ad M) H → va_S (adA SM ad) s.heap H locs → fM_room_116 v1 v5 M = some o65 → W p l e (rm0_ 1 22) s m args below meth c H locs 0 0 (MQ below (QW G kl SM c3 ad none out) args s 0 0 (adA SM ad)) (F0 m 116 ls []) := by
            intro v5 M H locs ls  hl hP hS hf
            unfold fM_room_116 at hf
            obtain ⟨x12, hx12, hf⟩ := xlt_some hf
            refine lv_iinc (k := 2) (lv' := [(5, .int x12), (0, .ref (ad 0)), (1, .int v1)]) hx hb d_M_room_116 hl rfl hx12 (by decide) rfl (fun ls hl => ?_)
            refine lv_goto (tgt := 65) hx hb d_M_room_119 rfl ?_
            exact ih65 x12 M _ _ _ (lv_sub hl [1, 2, 0] rfl) hP hS (xw_again hf hn65)
          unfold gM_room_65 at hf
          refine lv_iload hx hb d_M_room_65 (lv_at hl 2 rfl) ?_
          refine lv_bipush (v := 36) hx hb d_M_room_67 rfl ?_
          refine lv_iload_n hx hb d_M_room_69 rfl (lv_at hl 1 rfl) ?_
          refine lv_imul hx hb d_M_room_70 ?_
          refine lv_bipush (v := 36) hx hb d_M_room_71 rfl ?_
          refine lv_iadd hx hb d_M_room_73 ?_
          refine lv_icmp_ge (tgt := 122) hx hb d_M_room_74 rfl (fun hc => ?_) (fun hc => ?_)
          · have hf := ite_t hc hf
            have he := xw_exit hf hn65
            subst he
            have hf := hk65
            exact K122  M _ _ _  (lv_sub hl [0] rfl) hP hS hf
          · have hf := ite_f hc hf
            refine lv_aload_n hx hb d_M_room_77 rfl (lv_at hl 0 rfl) ?_
            refine xr_getr hx hb hT hown hK hP sM_0 rfl inM 17 (by decide) wf_M_56 rfl d_M_room_78 ?_
            refine lv_iload hx hb d_M_room_81 (lv_at hl 2 rfl) ?_
            refine lv_iconst (v := 0) hx hb d_M_room_83 rfl ?_
            obtain ⟨g13, hf⟩ := xgd_some hf
            obtain ⟨M14, hM14, hf⟩ := xlt_some hf
            refine xr_zast hx hb hd hK hP hS sM_16 g13 d_M_room_84 (fun H locs hP hS => ?_)
            rw [hM14] at hP
            refine lv_iconst (v := 0) hx hb d_M_room_85 rfl ?_
            refine lv_istore (lv' := [(6, .int 0), (0, .ref (ad 0)), (1, .int v1), (5, .int v5)]) hx hb d_M_room_86 hl (by decide) rfl (fun ls hl => ?_)
            obtain ⟨e88, he88, hk88⟩ := xbd_some hf
            obtain ⟨n88, hq88⟩ := xlp_n he88
            have LH88 : ∀ (n : Nat) (v6 : Int32) (M : Mem) (H : Heap) (locs : List Loc) (ls : Array Slot), lv_has ls 7 [(0, .ref (ad 0)), (1, .int v1), (5, .int v5), (6, .int v6)] → va_P G kl (wd SM c3 ad M) H → va_S (adA SM ad) s.heap H locs → xwh (bM_room_88 v1 v5) n (v6, M) = some e88 → W p l e (rm0_ 1 22) s m args below meth c H locs 0 0 (MQ below (QW G kl SM c3 ad none out) args s 0 0 (adA SM ad)) (F0 m 88 ls []) := by
              intro n
              induction n with
              | zero =>
                intro v6 M H locs ls hl hP hS hn
                exact xwh_0 hn
              | succ n ih88 =>
                intro v6 M H locs ls hl hP hS hn88
                obtain ⟨o88, hf, hn88⟩ := xwh_s hn88
                have hf : gM_room_88 v1 v5 v6 M = some o88 := hf
                unfold gM_room_88 at hf
                refine lv_iload hx hb d_M_room_88 (lv_at hl 3 rfl) ?_
                refine lv_bipush (v := 6) hx hb d_M_room_90 rfl ?_
                refine lv_icmp_ge (tgt := 116) hx hb d_M_room_92 rfl (fun hc => ?_) (fun hc => ?_)
                · have hf := ite_t hc hf
                  have he := xw_exit hf hn88
                  subst he
                  have hf := hk88
                  exact K116 v5 M _ _ _  (lv_sub hl [0, 1, 2] rfl) hP hS hf
                · have hf := ite_f hc hf
                  refine lv_aload_n hx hb d_M_room_95 rfl (lv_at hl 0 rfl) ?_
                  refine xr_getr hx hb hT hown hK hP sM_0 rfl inM 18 (by decide) wf_M_59 rfl d_M_room_96 ?_
                  refine lv_sipush (v := 144) hx hb d_M_room_99 rfl ?_
                  refine lv_iload hx hb d_M_room_102 (lv_at hl 3 rfl) ?_
                  refine lv_imul hx hb d_M_room_104 ?_
                  refine lv_iload hx hb d_M_room_105 (lv_at hl 2 rfl) ?_
                  refine lv_iadd hx hb d_M_room_107 ?_
                  refine lv_iconst (v := 0) hx hb d_M_room_108 rfl ?_
                  obtain ⟨g15, hf⟩ := xgd_some hf
                  obtain ⟨M16, hM16, hf⟩ := xlt_some hf
                  refine xr_iast hx hb hd hK hP hS sM_17 g15 d_M_room_109 (fun H locs hP hS => ?_)
                  rw [hM16] at hP
                  obtain ⟨x17, hx17, hf⟩ := xlt_some hf
                  refine lv_iinc (k := 3) (lv' := [(6, .int x17), (0, .ref (ad 0)), (1, .int v1), (5, .int v5)]) hx hb d_M_room_110 hl rfl hx17 (by decide) rfl (fun ls hl => ?_)
                  refine lv_goto (tgt := 88) hx hb d_M_room_113 rfl ?_
                  exact ih88 x17 M16 _ _ _ (lv_sub hl [1, 2, 3, 0] rfl) hP hS (xw_again hf hn88)
            exact LH88 n88 0 M14 _ _ _ (lv_sub hl [1, 2, 3, 0] rfl) hP hS hq88
      exact LH65 n65 x11 M10 _ _ _ (lv_sub hl [1, 2, 0] rfl) hP hS hq65
    · have hf := ite_t hc hf
      exact xw_vret hx hb hr hlk hP hS (Option.some.inj hf) d_M_room_36
  have K29 : ∀ (v1 v2 v3 v4 s29_0 : Int32) (M : Mem) (H : Heap) (locs : List Loc) (ls : Array Slot), lv_has ls 7 [(0, .ref (ad 0)), (1, .int v1), (2, .int v2), (3, .int v3), (4, .int v4)] → va_P G kl (wd SM c3 ad M) H → va_S (adA SM ad) s.heap H locs → fM_room_29 v1 v2 v3 v4 s29_0 M = some out → W p l e (rm0_ 1 22) s m args below meth c H locs 0 0 (MQ below (QW G kl SM c3 ad none out) args s 0 0 (adA SM ad)) (F0 m 29 ls [.int s29_0, .ref (ad 0)]) := by
    intro v1 v2 v3 v4 s29_0 M H locs ls  hl hP hS hf
    unfold fM_room_29 at hf
    refine lv_iconst (v := 0) hx hb d_M_room_29 rfl ?_
    exact K30 v1 v2 v3 v4 0 s29_0 M _ _ _  hl hP hS hf
  unfold fM_room at hf
  refine lv_aload_n hx hb d_M_room_0 rfl (lv_at hl 0 rfl) ?_
  refine lv_iload_n hx hb d_M_room_1 rfl (lv_at hl 1 rfl) ?_
  obtain ⟨r18, hr18, hf⟩ := xbd_some hf
  refine xc_rs (rest := [.ref (ad 0)]) F hT hK hP (tM_isRoom l G c3 ad M a1 r18 hr18) wl_M_138 ws_M_isRoom wn_M wc_M_isRoom ck_M_isRoom ⟨rfl, rfl⟩ ⟨by decide, by decide⟩ ⟨Nat.le_refl _, Nat.le_refl _⟩ hl.1 rfl (Nat.le_of_ble_eq_true rfl) d_M_room_2 ?_
  refine lv_iload_n hx hb d_M_room_5 rfl (lv_at hl 2 rfl) ?_
  refine lv_iconst (v := 0) hx hb d_M_room_6 rfl ?_
  refine lv_bipush (v := 6) hx hb d_M_room_7 rfl ?_
  obtain ⟨r19, hr19, hf⟩ := xbd_some hf
  refine xc_rs (rest := [.int r18, .ref (ad 0)]) F hT hK hP (tM_within l G c3 ad M a2 0 6 r19 hr19) wl_M_93 ws_M_within wn_M wc_M_within ck_M_within ⟨rfl, rfl⟩ ⟨by decide, by decide⟩ ⟨Nat.le_refl _, Nat.le_refl _⟩ hl.1 rfl (Nat.le_of_ble_eq_true rfl) d_M_room_9 ?_
  refine lv_if_eq (tgt := 29) hx hb d_M_room_12 rfl (fun hc => ?_) (fun hc => ?_)
  · have hf := ite_t hc hf
    exact K29 a1 a2 a3 a4 r18 M _ _ _  hl hP hS hf
  · have hf := ite_f hc hf
    refine lv_iload_n hx hb d_M_room_15 rfl (lv_at hl 3 rfl) ?_
    refine lv_iconst (v := 0) hx hb d_M_room_16 rfl ?_
    refine lv_bipush (v := 6) hx hb d_M_room_17 rfl ?_
    obtain ⟨r20, hr20, hf⟩ := xbd_some hf
    refine xc_rs (rest := [.int r18, .ref (ad 0)]) F hT hK hP (tM_within l G c3 ad M a3 0 6 r20 hr20) wl_M_93 ws_M_within wn_M wc_M_within ck_M_within ⟨rfl, rfl⟩ ⟨by decide, by decide⟩ ⟨Nat.le_refl _, Nat.le_refl _⟩ hl.1 rfl (Nat.le_of_ble_eq_true rfl) d_M_room_19 ?_
    refine lv_if_eq (tgt := 29) hx hb d_M_room_22 rfl (fun hc => ?_) (fun hc => ?_)
    · have hf := ite_t hc hf
      exact K29 a1 a2 a3 a4 r18 M _ _ _  hl hP hS hf
    · have hf := ite_f hc hf
      refine lv_iconst (v := 1) hx hb d_M_room_25 rfl ?_
      refine lv_goto (tgt := 30) hx hb d_M_room_26 rfl ?_
      exact K30 a1 a2 a3 a4 1 r18 M _ _ _  hl hP hS hf
noncomputable def fM_isSeat_40 (s40_0 : Int32) (M : Mem) : Option (Int32) := xgd (s40_0 = 0 ∨ s40_0 = 1) (some s40_0)
noncomputable def fM_isSeat_39 (M : Mem) : Option (Int32) := fM_isSeat_40 0 M
noncomputable def fM_isSeat (a1 a2 a3 : Int32) (M : Mem) : Option (Int32) := xbd (fM_isRoom a1) (fun r2 => if r2 = 0 then (fM_isSeat_39  M) else (if a2 < 0 then (fM_isSeat_39  M) else (xgd (vp_in a1 4) (if (M 13 a1.toNatClampNeg) ≤ a2 then (fM_isSeat_39  M) else (if a3 < 0 then (fM_isSeat_39  M) else (xgd (vp_in a1 4) (if (M 14 a1.toNatClampNeg) ≤ a3 then (fM_isSeat_39  M) else (fM_isSeat_40 1 M))))))))
set_option maxHeartbeats 4000000 in
set_option maxRecDepth 100000 in
theorem tM_isSeat (l : Launch) (G : va_G) (c3 : ClassId × ClassId × ClassId) (ad : Nat → Nat) (M : Mem) (a1 a2 a3 : Int32) (out : Int32) (hf : fM_isSeat a1 a2 a3 M = some out) : RMet l yM_isSeat cM_isSeat 4 (some .boolean) (rm0_ 1 20) G kl SM c3 ad M [.ref (ad 0), .int a1, .int a2, .int a3] out := by
  refine RMet.of (by decide +kernel) (Nat.le_of_ble_eq_true rfl) (fun p e s m args below meth c ls F hT hK hP hr hlk hl => ?_)
  have hx := F.1
  have hb := F.2.1
  have F : CallFix p m c cM_isSeat 4 s args gw RM := F
  have hown := F.2.2.2.1
  have hl : lv_has ls 4 [(0, .ref (ad 0)), (1, .int a1), (2, .int a2), (3, .int a3)] := hl
  have K40 : ∀ (s40_0 : Int32) (ls : Array Slot), lv_has ls 4 [] → fM_isSeat_40 s40_0 M = some out → W p l e (rm0_ 1 20) s m args below meth c s.heap [] 0 0 (MQ below (QcRead out) args s 0 0 (fun _ => False)) (F0 m 40 ls [.int s40_0]) := by
    intro s40_0 ls  hl hf
    unfold fM_isSeat_40 at hf
    obtain ⟨z1, hf⟩ := xgd_some hf
    exact xr_zret hx hb hr hlk z1 (Option.some.inj hf) d_M_isSeat_40
  have K39 : ∀ (ls : Array Slot), lv_has ls 4 [] → fM_isSeat_39  M = some out → W p l e (rm0_ 1 20) s m args below meth c s.heap [] 0 0 (MQ below (QcRead out) args s 0 0 (fun _ => False)) (F0 m 39 ls []) := by
    intro  ls  hl hf
    unfold fM_isSeat_39 at hf
    refine lv_iconst (v := 0) hx hb d_M_isSeat_39 rfl ?_
    exact K40 0 _  hl hf
  unfold fM_isSeat at hf
  refine lv_iload_n hx hb d_M_isSeat_0 rfl (lv_at hl 1 rfl) ?_
  obtain ⟨r2, hr2, hf⟩ := xbd_some hf
  refine xc_rs (rest := []) F hT hK hP (tM_isRoom l G c3 ad M a1 r2 hr2) wl_M_138 ws_M_isRoom wn_M wc_M_isRoom ck_M_isRoom ⟨rfl, rfl⟩ ⟨by decide, by decide⟩ ⟨Nat.le_refl _, Nat.le_refl _⟩ hl.1 rfl (Nat.le_of_ble_eq_true rfl) d_M_isSeat_1 ?_
  refine lv_if_eq (tgt := 39) hx hb d_M_isSeat_4 rfl (fun hc => ?_) (fun hc => ?_)
  · have hf := ite_t hc hf
    exact K39  _  (lv_sub hl [] rfl) hf
  · have hf := ite_f hc hf
    refine lv_iload_n hx hb d_M_isSeat_7 rfl (lv_at hl 2 rfl) ?_
    refine lv_if_lt (tgt := 39) hx hb d_M_isSeat_8 rfl (fun hc => ?_) (fun hc => ?_)
    · have hf := ite_t hc hf
      exact K39  _  (lv_sub hl [] rfl) hf
    · have hf := ite_f hc hf
      refine lv_iload_n hx hb d_M_isSeat_11 rfl (lv_at hl 2 rfl) ?_
      refine lv_aload_n hx hb d_M_isSeat_12 rfl (lv_at hl 0 rfl) ?_
      refine xr_getr hx hb hT hown hK hP sM_0 rfl inM 14 (by decide) wf_M_47 rfl d_M_isSeat_13 ?_
      refine lv_iload_n hx hb d_M_isSeat_16 rfl (lv_at hl 1 rfl) ?_
      obtain ⟨g3, hf⟩ := xgd_some hf
      refine xr_iald hx hb hK hP sM_13 g3 d_M_isSeat_17 ?_
      refine lv_icmp_ge (tgt := 39) hx hb d_M_isSeat_18 rfl (fun hc => ?_) (fun hc => ?_)
      · have hf := ite_t hc hf
        exact K39  _  (lv_sub hl [] rfl) hf
      · have hf := ite_f hc hf
        refine lv_iload_n hx hb d_M_isSeat_21 rfl (lv_at hl 3 rfl) ?_
        refine lv_if_lt (tgt := 39) hx hb d_M_isSeat_22 rfl (fun hc => ?_) (fun hc => ?_)
        · have hf := ite_t hc hf
          exact K39  _  (lv_sub hl [] rfl) hf
        · have hf := ite_f hc hf
          refine lv_iload_n hx hb d_M_isSeat_25 rfl (lv_at hl 3 rfl) ?_
          refine lv_aload_n hx hb d_M_isSeat_26 rfl (lv_at hl 0 rfl) ?_
          refine xr_getr hx hb hT hown hK hP sM_0 rfl inM 15 (by decide) wf_M_50 rfl d_M_isSeat_27 ?_
          refine lv_iload_n hx hb d_M_isSeat_30 rfl (lv_at hl 1 rfl) ?_
          obtain ⟨g4, hf⟩ := xgd_some hf
          refine xr_iald hx hb hK hP sM_14 g4 d_M_isSeat_31 ?_
          refine lv_icmp_ge (tgt := 39) hx hb d_M_isSeat_32 rfl (fun hc => ?_) (fun hc => ?_)
          · have hf := ite_t hc hf
            exact K39  _  (lv_sub hl [] rfl) hf
          · have hf := ite_f hc hf
            refine lv_iconst (v := 1) hx hb d_M_isSeat_35 rfl ?_
            refine lv_goto (tgt := 40) hx hb d_M_isSeat_36 rfl ?_
            exact K40 1 _  (lv_sub hl [] rfl) hf
noncomputable def fM_block_117 (v4 v6 s117_0 : Int32) (M : Mem) : Option (Int32 × Mem) := xgd (vp_in v6 144) (xlt (up2 M 16 v6.toNatClampNeg (vp_nar .boolean v4)) (fun M2 => xgd (s117_0 = 0 ∨ s117_0 = 1) (some (s117_0, M2))))
noncomputable def fM_block_92 (v4 v6 s92_0 s92_1 : Int32) (M : Mem) : Option (Int32 × Mem) := xbd (fM_goes s92_1 s92_0 M) (fun r4 => if r4.1 = 0 then (xgd ((0 : Int32) = 0 ∨ (0 : Int32) = 1) (some (0, r4.2))) else (xgd (vp_in v6 144) (if (r4.2 16 v6.toNatClampNeg) = v4 then (fM_block_117 v4 v6 0 r4.2) else (fM_block_117 v4 v6 1 r4.2))))
noncomputable def fM_block_79 (v4 v5 v6 v7 : Int32) (M : Mem) : Option (Int32 × Mem) := if v7 = 0 then (fM_block_92 v4 v6 1 v5 M) else (fM_block_92 v4 v6 0 v5 M)
noncomputable def fM_block_71 (v4 v5 v6 v8 s71_0 : Int32) (M : Mem) : Option ((Int32 × Int32) ⊕ (Int32 × Int32)) := xlt (v8 + 1) (fun x7 => some (.inr (s71_0, x7)))
noncomputable def fM_block_66 (v4 v5 v6 v8 : Int32) (M : Mem) : Option ((Int32 × Int32) ⊕ (Int32 × Int32)) := fM_block_71 v4 v5 v6 v8 1 M
noncomputable def gM_block_37 (v4 v5 v6 : Int32) (M : Mem) (v7 v8 : Int32) : Option ((Int32 × Int32) ⊕ (Int32 × Int32)) := if 6 ≤ v8 then (some (.inl (v7, v8))) else (if v7 = 0 then (xlt (((144 * v8) + v6)) (fun x8 => xgd (vp_in x8 864) (if (M 17 x8.toNatClampNeg) ≤ 0 then (fM_block_71 v4 v5 v6 v8 0 M) else (fM_block_66 v4 v5 v6 v8 M)))) else (fM_block_66 v4 v5 v6 v8 M))
noncomputable def bM_block_37 (v4 v5 v6 : Int32) (M : Mem) : Int32 × Int32 → Option ((Int32 × Int32) ⊕ (Int32 × Int32)) := fun st => gM_block_37 v4 v5 v6 M st.1 st.2
noncomputable def fM_block_29 (v4 v5 s29_0 : Int32) (M : Mem) : Option (Int32 × Mem) := xbd (xlp (bM_block_37 v4 v5 s29_0 M) (0, 0)) (fun e37 => fM_block_79 v4 v5 s29_0 e37.1 M)
noncomputable def fM_block (a1 a2 a3 a4 : Int32) (M : Mem) : Option (Int32 × Mem) := xbd (fM_isSeat a1 a2 a3 M) (fun r13 => if r13 = 0 then (fM_block_29 a4 r13 0 M) else (fM_block_29 a4 r13 (((36 * a1) + (6 * a2)) + a3) M))
set_option maxHeartbeats 4000000 in
set_option maxRecDepth 100000 in
theorem tM_block (l : Launch) (G : va_G) (c3 : ClassId × ClassId × ClassId) (ad : Nat → Nat) (hd : adI SM ad) (M : Mem) (a1 a2 a3 a4 : Int32) (o1 : Int32) (o2 : Mem) (hf : fM_block a1 a2 a3 a4 M = some (o1, o2)) : WMet l yM_block cM_block 9 (some .boolean) (rm0_ 2 43) G kl SM c3 ad M [.ref (ad 0), .int a1, .int a2, .int a3, .int a4] (some (.int o1)) o2 := by
  generalize hout : (o1, o2) = out at hf
  obtain rfl : out.1 = o1 := by rw [← hout]
  obtain rfl : out.2 = o2 := by rw [← hout]
  clear hout
  refine WMet.of (by decide +kernel) (Nat.le_of_ble_eq_true rfl) (fun p e s m args below meth c ls F hT hK hP hr hlk hl hS => ?_)
  have hx := F.1
  have hb := F.2.1
  have F : CallFix p m c cM_block 9 s args gw RM := F
  have hown := F.2.2.2.1
  have hl : lv_has ls 9 [(0, .ref (ad 0)), (1, .int a1), (2, .int a2), (3, .int a3), (4, .int a4)] := hl
  revert hP hS
  suffices hall : ∀ (H : Heap) (locs : List Loc), va_P G kl (wd SM c3 ad M) H → va_S (adA SM ad) s.heap H locs → W p l e (rm0_ 2 43) s m args below meth c H locs 0 0 (MQ below (QW G kl SM c3 ad (some (.int out.1)) out.2) args s 0 0 (adA SM ad)) (F0 m 0 ls []) from hall s.heap []
  intro H locs hP hS
  have K117 : ∀ (v4 v6 s117_0 : Int32) (M : Mem) (H : Heap) (locs : List Loc) (ls : Array Slot), lv_has ls 9 [(0, .ref (ad 0)), (4, .int v4), (6, .int v6)] → va_P G kl (wd SM c3 ad M) H → va_S (adA SM ad) s.heap H locs → fM_block_117 v4 v6 s117_0 M = some out → W p l e (rm0_ 2 43) s m args below meth c H locs 0 0 (MQ below (QW G kl SM c3 ad (some (.int out.1)) out.2) args s 0 0 (adA SM ad)) (F0 m 117 ls [.int s117_0]) := by
    intro v4 v6 s117_0 M H locs ls  hl hP hS hf
    unfold fM_block_117 at hf
    refine lv_istore (lv' := [(8, .int s117_0), (0, .ref (ad 0)), (4, .int v4), (6, .int v6)]) hx hb d_M_block_117 hl (by decide) rfl (fun ls hl => ?_)
    refine lv_aload_n hx hb d_M_block_119 rfl (lv_at hl 1 rfl) ?_
    refine xr_getr hx hb hT hown hK hP sM_0 rfl inM 17 (by decide) wf_M_56 rfl d_M_block_120 ?_
    refine lv_iload hx hb d_M_block_123 (lv_at hl 3 rfl) ?_
    refine lv_iload hx hb d_M_block_125 (lv_at hl 2 rfl) ?_
    obtain ⟨g1, hf⟩ := xgd_some hf
    obtain ⟨M2, hM2, hf⟩ := xlt_some hf
    refine xr_zast hx hb hd hK hP hS sM_16 g1 d_M_block_127 (fun H locs hP hS => ?_)
    rw [hM2] at hP
    refine lv_iload hx hb d_M_block_128 (lv_at hl 0 rfl) ?_
    obtain ⟨z3, hf⟩ := xgd_some hf
    exact xw_zret hx hb hr hlk hP hS z3 (Option.some.inj hf) d_M_block_130
  have K92 : ∀ (v4 v6 s92_0 s92_1 : Int32) (M : Mem) (H : Heap) (locs : List Loc) (ls : Array Slot), lv_has ls 9 [(0, .ref (ad 0)), (4, .int v4), (6, .int v6)] → va_P G kl (wd SM c3 ad M) H → va_S (adA SM ad) s.heap H locs → fM_block_92 v4 v6 s92_0 s92_1 M = some out → W p l e (rm0_ 2 43) s m args below meth c H locs 0 0 (MQ below (QW G kl SM c3 ad (some (.int out.1)) out.2) args s 0 0 (adA SM ad)) (F0 m 92 ls [.int s92_0, .int s92_1, .ref (ad 0)]) := by
    intro v4 v6 s92_0 s92_1 M H locs ls  hl hP hS hf
    unfold fM_block_92 at hf
    obtain ⟨r4, hr4, hf⟩ := xbd_some hf
    refine xc_wv (rest := []) F hT hK hP hS (fun _ h => h) (tM_goes l G c3 ad hd M s92_1 s92_0 r4.1 r4.2 hr4) sM_0 rfl wl_M_97 wi_M_goes we_M_goes wn_M wc_M_goes ck_M_goes ⟨rfl, rfl⟩ ⟨by decide, by decide⟩ ⟨Nat.le_refl _, Nat.le_refl _⟩ hl.1 rfl (Nat.le_of_ble_eq_true rfl) d_M_block_92 (fun H locs hP hS _ => ?_)
    refine lv_if_ne (tgt := 100) hx hb d_M_block_95 rfl (fun hc => ?_) (fun hc => ?_)
    · have hf := ite_f hc hf
      refine lv_aload_n hx hb d_M_block_100 rfl (lv_at hl 0 rfl) ?_
      refine xr_getr hx hb hT hown hK hP sM_0 rfl inM 17 (by decide) wf_M_56 rfl d_M_block_101 ?_
      refine lv_iload hx hb d_M_block_104 (lv_at hl 2 rfl) ?_
      obtain ⟨g5, hf⟩ := xgd_some hf
      refine xr_zald hx hb hK hP sM_16 g5 d_M_block_106 ?_
      refine lv_iload hx hb d_M_block_107 (lv_at hl 1 rfl) ?_
      refine lv_icmp_eq (tgt := 116) hx hb d_M_block_109 rfl (fun hc => ?_) (fun hc => ?_)
      · have hf := ite_t hc hf
        refine lv_iconst (v := 0) hx hb d_M_block_116 rfl ?_
        exact K117 v4 v6 0 r4.2 _ _ _  hl hP hS hf
      · have hf := ite_f hc hf
        refine lv_iconst (v := 1) hx hb d_M_block_112 rfl ?_
        refine lv_goto (tgt := 117) hx hb d_M_block_113 rfl ?_
        exact K117 v4 v6 1 r4.2 _ _ _  hl hP hS hf
    · have hf := ite_t hc hf
      refine lv_iconst (v := 0) hx hb d_M_block_98 rfl ?_
      obtain ⟨z6, hf⟩ := xgd_some hf
      exact xw_zret hx hb hr hlk hP hS z6 (Option.some.inj hf) d_M_block_99
  have K79 : ∀ (v4 v5 v6 v7 : Int32) (M : Mem) (H : Heap) (locs : List Loc) (ls : Array Slot), lv_has ls 9 [(0, .ref (ad 0)), (4, .int v4), (5, .int v5), (6, .int v6), (7, .int v7)] → va_P G kl (wd SM c3 ad M) H → va_S (adA SM ad) s.heap H locs → fM_block_79 v4 v5 v6 v7 M = some out → W p l e (rm0_ 2 43) s m args below meth c H locs 0 0 (MQ below (QW G kl SM c3 ad (some (.int out.1)) out.2) args s 0 0 (adA SM ad)) (F0 m 79 ls []) := by
    intro v4 v5 v6 v7 M H locs ls  hl hP hS hf
    unfold fM_block_79 at hf
    refine lv_aload_n hx hb d_M_block_79 rfl (lv_at hl 0 rfl) ?_
    refine lv_iload hx hb d_M_block_80 (lv_at hl 2 rfl) ?_
    refine lv_iload hx hb d_M_block_82 (lv_at hl 4 rfl) ?_
    refine lv_if_ne (tgt := 91) hx hb d_M_block_84 rfl (fun hc => ?_) (fun hc => ?_)
    · have hf := ite_f hc hf
      refine lv_iconst (v := 0) hx hb d_M_block_91 rfl ?_
      exact K92 v4 v6 0 v5 M _ _ _  (lv_sub hl [0, 1, 3] rfl) hP hS hf
    · have hf := ite_t hc hf
      refine lv_iconst (v := 1) hx hb d_M_block_87 rfl ?_
      refine lv_goto (tgt := 92) hx hb d_M_block_88 rfl ?_
      exact K92 v4 v6 1 v5 M _ _ _  (lv_sub hl [0, 1, 3] rfl) hP hS hf
  have K29 : ∀ (v4 v5 s29_0 : Int32) (M : Mem) (H : Heap) (locs : List Loc) (ls : Array Slot), lv_has ls 9 [(0, .ref (ad 0)), (4, .int v4), (5, .int v5)] → va_P G kl (wd SM c3 ad M) H → va_S (adA SM ad) s.heap H locs → fM_block_29 v4 v5 s29_0 M = some out → W p l e (rm0_ 2 43) s m args below meth c H locs 0 0 (MQ below (QW G kl SM c3 ad (some (.int out.1)) out.2) args s 0 0 (adA SM ad)) (F0 m 29 ls [.int s29_0]) := by
    intro v4 v5 s29_0 M H locs ls  hl hP hS hf
    unfold fM_block_29 at hf
    refine lv_istore (lv' := [(6, .int s29_0), (0, .ref (ad 0)), (4, .int v4), (5, .int v5)]) hx hb d_M_block_29 hl (by decide) rfl (fun ls hl => ?_)
    refine lv_iconst (v := 0) hx hb d_M_block_31 rfl ?_
    refine lv_istore (lv' := [(7, .int 0), (6, .int s29_0), (0, .ref (ad 0)), (4, .int v4), (5, .int v5)]) hx hb d_M_block_32 hl (by decide) rfl (fun ls hl => ?_)
    refine lv_iconst (v := 0) hx hb d_M_block_34 rfl ?_
    refine lv_istore (lv' := [(8, .int 0), (7, .int 0), (6, .int s29_0), (0, .ref (ad 0)), (4, .int v4), (5, .int v5)]) hx hb d_M_block_35 hl (by decide) rfl (fun ls hl => ?_)
    obtain ⟨e37, he37, hk37⟩ := xbd_some hf
    obtain ⟨n37, hq37⟩ := xlp_n he37
    have LH37 : ∀ (n : Nat) (v7 v8 : Int32) (ls : Array Slot), lv_has ls 9 [(0, .ref (ad 0)), (4, .int v4), (5, .int v5), (6, .int s29_0), (7, .int v7), (8, .int v8)] → xwh (bM_block_37 v4 v5 s29_0 M) n (v7, v8) = some e37 → W p l e (rm0_ 2 43) s m args below meth c H locs 0 0 (MQ below (QW G kl SM c3 ad (some (.int out.1)) out.2) args s 0 0 (adA SM ad)) (F0 m 37 ls []) := by
      intro n
      induction n with
      | zero =>
        intro v7 v8 ls hl hn
        exact xwh_0 hn
      | succ n ih37 =>
        intro v7 v8 ls hl hn37
        obtain ⟨o37, hf, hn37⟩ := xwh_s hn37
        have hf : gM_block_37 v4 v5 s29_0 M v7 v8 = some o37 := hf
        have K71 : ∀ (v8 s71_0 : Int32) (ls : Array Slot), lv_has ls 9 [(0, .ref (ad 0)), (4, .int v4), (5, .int v5), (6, .int s29_0), (8, .int v8)] → fM_block_71 v4 v5 s29_0 v8 s71_0 M = some o37 → W p l e (rm0_ 2 43) s m args below meth c H locs 0 0 (MQ below (QW G kl SM c3 ad (some (.int out.1)) out.2) args s 0 0 (adA SM ad)) (F0 m 71 ls [.int s71_0]) := by
          intro v8 s71_0 ls  hl hf
          unfold fM_block_71 at hf
          refine lv_istore (lv' := [(7, .int s71_0), (0, .ref (ad 0)), (4, .int v4), (5, .int v5), (6, .int s29_0), (8, .int v8)]) hx hb d_M_block_71 hl (by decide) rfl (fun ls hl => ?_)
          obtain ⟨x7, hx7, hf⟩ := xlt_some hf
          refine lv_iinc (k := 5) (lv' := [(8, .int x7), (7, .int s71_0), (0, .ref (ad 0)), (4, .int v4), (5, .int v5), (6, .int s29_0)]) hx hb d_M_block_73 hl rfl hx7 (by decide) rfl (fun ls hl => ?_)
          refine lv_goto (tgt := 37) hx hb d_M_block_76 rfl ?_
          exact ih37 s71_0 x7 _ (lv_sub hl [2, 3, 4, 5, 1, 0] rfl) (xw_again hf hn37)
        have K66 : ∀ (v8 : Int32) (ls : Array Slot), lv_has ls 9 [(0, .ref (ad 0)), (4, .int v4), (5, .int v5), (6, .int s29_0), (8, .int v8)] → fM_block_66 v4 v5 s29_0 v8 M = some o37 → W p l e (rm0_ 2 43) s m args below meth c H locs 0 0 (MQ below (QW G kl SM c3 ad (some (.int out.1)) out.2) args s 0 0 (adA SM ad)) (F0 m 66 ls []) := by
          intro v8 ls  hl hf
          unfold fM_block_66 at hf
          refine lv_iconst (v := 1) hx hb d_M_block_66 rfl ?_
          refine lv_goto (tgt := 71) hx hb d_M_block_67 rfl ?_
          exact K71 v8 1 _  hl hf
        unfold gM_block_37 at hf
        refine lv_iload hx hb d_M_block_37 (lv_at hl 5 rfl) ?_
        refine lv_bipush (v := 6) hx hb d_M_block_39 rfl ?_
        refine lv_icmp_ge (tgt := 79) hx hb d_M_block_41 rfl (fun hc => ?_) (fun hc => ?_)
        · have hf := ite_t hc hf
          have he := xw_exit hf hn37
          subst he
          have hf := hk37
          exact K79 v4 v5 s29_0 v7 M _ _ _  (lv_sub hl [0, 1, 2, 3, 4] rfl) hP hS hf
        · have hf := ite_f hc hf
          refine lv_iload hx hb d_M_block_44 (lv_at hl 4 rfl) ?_
          refine lv_if_ne (tgt := 66) hx hb d_M_block_46 rfl (fun hc => ?_) (fun hc => ?_)
          · have hf := ite_f hc hf
            exact K66 v8 _  (lv_sub hl [0, 1, 2, 3, 5] rfl) hf
          · have hf := ite_t hc hf
            refine lv_aload_n hx hb d_M_block_49 rfl (lv_at hl 0 rfl) ?_
            refine xr_getr hx hb hT hown hK hP sM_0 rfl inM 18 (by decide) wf_M_59 rfl d_M_block_50 ?_
            refine lv_sipush (v := 144) hx hb d_M_block_53 rfl ?_
            refine lv_iload hx hb d_M_block_56 (lv_at hl 5 rfl) ?_
            refine lv_imul hx hb d_M_block_58 ?_
            refine lv_iload hx hb d_M_block_59 (lv_at hl 3 rfl) ?_
            refine lv_iadd hx hb d_M_block_61 ?_
            obtain ⟨x8, hx8, hf⟩ := xlt_some hf
            refine xr_name hx8 ?_
            obtain ⟨g9, hf⟩ := xgd_some hf
            refine xr_iald hx hb hK hP sM_17 g9 d_M_block_62 ?_
            refine lv_if_le (tgt := 70) hx hb d_M_block_63 rfl (fun hc => ?_) (fun hc => ?_)
            · have hf := ite_t hc hf
              refine lv_iconst (v := 0) hx hb d_M_block_70 rfl ?_
              exact K71 v8 0 _  (lv_sub hl [0, 1, 2, 3, 5] rfl) hf
            · have hf := ite_f hc hf
              exact K66 v8 _  (lv_sub hl [0, 1, 2, 3, 5] rfl) hf
    exact LH37 n37 0 0 _ (lv_sub hl [3, 4, 5, 2, 1, 0] rfl) hq37
  unfold fM_block at hf
  refine lv_aload_n hx hb d_M_block_0 rfl (lv_at hl 0 rfl) ?_
  refine lv_iload_n hx hb d_M_block_1 rfl (lv_at hl 1 rfl) ?_
  refine lv_iload_n hx hb d_M_block_2 rfl (lv_at hl 2 rfl) ?_
  refine lv_iload_n hx hb d_M_block_3 rfl (lv_at hl 3 rfl) ?_
  obtain ⟨r10, hr10, hf⟩ := xbd_some hf
  refine xc_rv (rest := []) F hT hK hP (tM_isSeat l G c3 ad M a1 a2 a3 r10 hr10) sM_0 rfl wl_M_141 wi_M_isSeat we_M_isSeat wn_M wc_M_isSeat ck_M_isSeat ⟨rfl, rfl⟩ ⟨by decide, by decide⟩ ⟨Nat.le_refl _, Nat.le_refl _⟩ hl.1 rfl (Nat.le_of_ble_eq_true rfl) d_M_block_4 ?_
  refine lv_istore (lv' := [(5, .int r10), (0, .ref (ad 0)), (1, .int a1), (2, .int a2), (3, .int a3), (4, .int a4)]) hx hb d_M_block_7 hl (by decide) rfl (fun ls hl => ?_)
  refine lv_iload hx hb d_M_block_9 (lv_at hl 0 rfl) ?_
  refine lv_if_eq (tgt := 28) hx hb d_M_block_11 rfl (fun hc => ?_) (fun hc => ?_)
  · have hf := ite_t hc hf
    refine lv_iconst (v := 0) hx hb d_M_block_28 rfl ?_
    exact K29 a4 r10 0 M _ _ _  (lv_sub hl [1, 5, 0] rfl) hP hS hf
  · have hf := ite_f hc hf
    refine lv_bipush (v := 36) hx hb d_M_block_14 rfl ?_
    refine lv_iload_n hx hb d_M_block_16 rfl (lv_at hl 2 rfl) ?_
    refine lv_imul hx hb d_M_block_17 ?_
    refine lv_bipush (v := 6) hx hb d_M_block_18 rfl ?_
    refine lv_iload_n hx hb d_M_block_20 rfl (lv_at hl 3 rfl) ?_
    refine lv_imul hx hb d_M_block_21 ?_
    refine lv_iadd hx hb d_M_block_22 ?_
    refine lv_iload_n hx hb d_M_block_23 rfl (lv_at hl 4 rfl) ?_
    refine lv_iadd hx hb d_M_block_24 ?_
    refine lv_goto (tgt := 29) hx hb d_M_block_25 rfl ?_
    exact K29 a4 r10 (((36 * a1) + (6 * a2)) + a3) M _ _ _  (lv_sub hl [1, 5, 0] rfl) hP hS hf
noncomputable def fM_place_35 (M : Mem) : Option (Int32) := some (-1)
noncomputable def gM_place_2 (v1 v2 : Int32) (M : Mem) (v3 : Int32) : Option (((Int32) ⊕ (Int32)) ⊕ (Int32)) := if 144 ≤ v3 then (some (.inl (.inr v3))) else (xlt (((144 * v2) + v3)) (fun x1 => xgd (vp_in x1 864) (if (M 17 x1.toNatClampNeg) = (v1 + 1) then (some (.inl (.inl v3))) else (xlt (v3 + 1) (fun x3 => some (.inr x3))))))
noncomputable def bM_place_2 (v1 v2 : Int32) (M : Mem) : Int32 → Option (((Int32) ⊕ (Int32)) ⊕ (Int32)) := fun st => gM_place_2 v1 v2 M st
noncomputable def fM_place (a1 a2 : Int32) (M : Mem) : Option (Int32) := xbd (xlp (bM_place_2 a1 a2 M) 0) (fun e2 => Sum.elim (fun r2 => some r2) (fun t2 => fM_place_35  M) e2)
set_option maxHeartbeats 4000000 in
set_option maxRecDepth 100000 in
theorem tM_place (l : Launch) (G : va_G) (c3 : ClassId × ClassId × ClassId) (ad : Nat → Nat) (M : Mem) (a1 a2 : Int32) (out : Int32) (hf : fM_place a1 a2 M = some out) : RMet l yM_place cM_place 4 (some .int) (rm0_ 0 0) G kl SM c3 ad M [.ref (ad 0), .int a1, .int a2] out := by
  refine RMet.of (by decide +kernel) (Nat.le_of_ble_eq_true rfl) (fun p e s m args below meth c ls F hT hK hP hr hlk hl => ?_)
  have hx := F.1
  have hb := F.2.1
  have F : CallFix p m c cM_place 4 s args gw RM := F
  have hown := F.2.2.2.1
  have hl : lv_has ls 4 [(0, .ref (ad 0)), (1, .int a1), (2, .int a2)] := hl
  have K35 : ∀ (ls : Array Slot), lv_has ls 4 [] → fM_place_35  M = some out → W p l e (rm0_ 0 0) s m args below meth c s.heap [] 0 0 (MQ below (QcRead out) args s 0 0 (fun _ => False)) (F0 m 35 ls []) := by
    intro  ls  hl hf
    unfold fM_place_35 at hf
    refine lv_iconst (v := (-1)) hx hb d_M_place_35 rfl ?_
    exact xr_iret hx hb hr hlk (Option.some.inj hf) d_M_place_36
  unfold fM_place at hf
  refine lv_iconst (v := 0) hx hb d_M_place_0 rfl ?_
  refine lv_istore_n (lv' := [(3, .int 0), (0, .ref (ad 0)), (1, .int a1), (2, .int a2)]) hx hb d_M_place_1 rfl hl (by decide) rfl (fun ls hl => ?_)
  obtain ⟨e2, he2, hk2⟩ := xbd_some hf
  obtain ⟨n2, hq2⟩ := xlp_n he2
  have LH2 : ∀ (n : Nat) (v3 : Int32) (ls : Array Slot), lv_has ls 4 [(0, .ref (ad 0)), (1, .int a1), (2, .int a2), (3, .int v3)] → xwh (bM_place_2 a1 a2 M) n v3 = some e2 → W p l e (rm0_ 0 0) s m args below meth c s.heap [] 0 0 (MQ below (QcRead out) args s 0 0 (fun _ => False)) (F0 m 2 ls []) := by
    intro n
    induction n with
    | zero =>
      intro v3 ls hl hn
      exact xwh_0 hn
    | succ n ih2 =>
      intro v3 ls hl hn2
      obtain ⟨o2, hf, hn2⟩ := xwh_s hn2
      have hf : gM_place_2 a1 a2 M v3 = some o2 := hf
      unfold gM_place_2 at hf
      refine lv_iload_n hx hb d_M_place_2 rfl (lv_at hl 3 rfl) ?_
      refine lv_sipush (v := 144) hx hb d_M_place_3 rfl ?_
      refine lv_icmp_ge (tgt := 35) hx hb d_M_place_6 rfl (fun hc => ?_) (fun hc => ?_)
      · have hf := ite_t hc hf
        have he := xw_exit hf hn2
        subst he
        have hf := hk2
        exact K35  _  (lv_sub hl [] rfl) hf
      · have hf := ite_f hc hf
        refine lv_aload_n hx hb d_M_place_9 rfl (lv_at hl 0 rfl) ?_
        refine xr_getr hx hb hT hown hK hP sM_0 rfl inM 18 (by decide) wf_M_59 rfl d_M_place_10 ?_
        refine lv_sipush (v := 144) hx hb d_M_place_13 rfl ?_
        refine lv_iload_n hx hb d_M_place_16 rfl (lv_at hl 2 rfl) ?_
        refine lv_imul hx hb d_M_place_17 ?_
        refine lv_iload_n hx hb d_M_place_18 rfl (lv_at hl 3 rfl) ?_
        refine lv_iadd hx hb d_M_place_19 ?_
        obtain ⟨x1, hx1, hf⟩ := xlt_some hf
        refine xr_name hx1 ?_
        obtain ⟨g2, hf⟩ := xgd_some hf
        refine xr_iald hx hb hK hP sM_17 g2 d_M_place_20 ?_
        refine lv_iload_n hx hb d_M_place_21 rfl (lv_at hl 1 rfl) ?_
        refine lv_iconst (v := 1) hx hb d_M_place_22 rfl ?_
        refine lv_iadd hx hb d_M_place_23 ?_
        refine lv_icmp_ne (tgt := 29) hx hb d_M_place_24 rfl (fun hc => ?_) (fun hc => ?_)
        · have hf := ite_f hc hf
          obtain ⟨x3, hx3, hf⟩ := xlt_some hf
          refine lv_iinc (k := 3) (lv' := [(3, .int x3), (0, .ref (ad 0)), (1, .int a1), (2, .int a2)]) hx hb d_M_place_29 hl rfl hx3 (by decide) rfl (fun ls hl => ?_)
          refine lv_goto (tgt := 2) hx hb d_M_place_32 rfl ?_
          exact ih2 x3 _ (lv_sub hl [1, 2, 3, 0] rfl) (xw_again hf hn2)
        · have hf := ite_t hc hf
          refine lv_iload_n hx hb d_M_place_27 rfl (lv_at hl 3 rfl) ?_
          have he := xw_exit hf hn2
          subst he
          have hf := hk2
          exact xr_iret hx hb hr hlk (Option.some.inj hf) d_M_place_28
  exact LH2 n2 0 _ (lv_sub hl [1, 2, 3, 0] rfl) hq2
noncomputable def fM_sitsFor_60 (s60_0 : Int32) (M : Mem) : Option (Int32) := xgd (s60_0 = 0 ∨ s60_0 = 1) (some s60_0)
noncomputable def fM_sitsFor_59 (M : Mem) : Option (Int32) := fM_sitsFor_60 0 M
noncomputable def fM_sitsFor (a1 a2 a3 a4 a5 : Int32) (M : Mem) : Option (Int32) := xbd (fM_isSeat a2 a3 a4 M) (fun r2 => if r2 = 0 then (xgd ((0 : Int32) = 0 ∨ (0 : Int32) = 1) (some 0)) else (xlt (((((144 * a1) + (36 * a2)) + (6 * a3)) + a4)) (fun x3 => xgd (vp_in x3 864) (if (M 17 x3.toNatClampNeg) ≤ 0 then (fM_sitsFor_59  M) else (xgd (vp_in x3 864) (if (M 18 x3.toNatClampNeg) = a5 then (fM_sitsFor_60 1 M) else (fM_sitsFor_59  M)))))))
set_option maxHeartbeats 4000000 in
set_option maxRecDepth 100000 in
theorem tM_sitsFor (l : Launch) (G : va_G) (c3 : ClassId × ClassId × ClassId) (ad : Nat → Nat) (M : Mem) (a1 a2 a3 a4 a5 : Int32) (out : Int32) (hf : fM_sitsFor a1 a2 a3 a4 a5 M = some out) : RMet l yM_sitsFor cM_sitsFor 7 (some .boolean) (rm0_ 2 43) G kl SM c3 ad M [.ref (ad 0), .int a1, .int a2, .int a3, .int a4, .int a5] out := by
  refine RMet.of (by decide +kernel) (Nat.le_of_ble_eq_true rfl) (fun p e s m args below meth c ls F hT hK hP hr hlk hl => ?_)
  have hx := F.1
  have hb := F.2.1
  have F : CallFix p m c cM_sitsFor 7 s args gw RM := F
  have hown := F.2.2.2.1
  have hl : lv_has ls 7 [(0, .ref (ad 0)), (1, .int a1), (2, .int a2), (3, .int a3), (4, .int a4), (5, .int a5)] := hl
  have K60 : ∀ (s60_0 : Int32) (ls : Array Slot), lv_has ls 7 [] → fM_sitsFor_60 s60_0 M = some out → W p l e (rm0_ 2 43) s m args below meth c s.heap [] 0 0 (MQ below (QcRead out) args s 0 0 (fun _ => False)) (F0 m 60 ls [.int s60_0]) := by
    intro s60_0 ls  hl hf
    unfold fM_sitsFor_60 at hf
    obtain ⟨z1, hf⟩ := xgd_some hf
    exact xr_zret hx hb hr hlk z1 (Option.some.inj hf) d_M_sitsFor_60
  have K59 : ∀ (ls : Array Slot), lv_has ls 7 [] → fM_sitsFor_59  M = some out → W p l e (rm0_ 2 43) s m args below meth c s.heap [] 0 0 (MQ below (QcRead out) args s 0 0 (fun _ => False)) (F0 m 59 ls []) := by
    intro  ls  hl hf
    unfold fM_sitsFor_59 at hf
    refine lv_iconst (v := 0) hx hb d_M_sitsFor_59 rfl ?_
    exact K60 0 _  hl hf
  unfold fM_sitsFor at hf
  refine lv_aload_n hx hb d_M_sitsFor_0 rfl (lv_at hl 0 rfl) ?_
  refine lv_iload_n hx hb d_M_sitsFor_1 rfl (lv_at hl 2 rfl) ?_
  refine lv_iload_n hx hb d_M_sitsFor_2 rfl (lv_at hl 3 rfl) ?_
  refine lv_iload hx hb d_M_sitsFor_3 (lv_at hl 4 rfl) ?_
  obtain ⟨r2, hr2, hf⟩ := xbd_some hf
  refine xc_rv (rest := []) F hT hK hP (tM_isSeat l G c3 ad M a2 a3 a4 r2 hr2) sM_0 rfl wl_M_141 wi_M_isSeat we_M_isSeat wn_M wc_M_isSeat ck_M_isSeat ⟨rfl, rfl⟩ ⟨by decide, by decide⟩ ⟨Nat.le_refl _, Nat.le_refl _⟩ hl.1 rfl (Nat.le_of_ble_eq_true rfl) d_M_sitsFor_5 ?_
  refine lv_if_ne (tgt := 13) hx hb d_M_sitsFor_8 rfl (fun hc => ?_) (fun hc => ?_)
  · have hf := ite_f hc hf
    refine lv_sipush (v := 144) hx hb d_M_sitsFor_13 rfl ?_
    refine lv_iload_n hx hb d_M_sitsFor_16 rfl (lv_at hl 1 rfl) ?_
    refine lv_imul hx hb d_M_sitsFor_17 ?_
    refine lv_bipush (v := 36) hx hb d_M_sitsFor_18 rfl ?_
    refine lv_iload_n hx hb d_M_sitsFor_20 rfl (lv_at hl 2 rfl) ?_
    refine lv_imul hx hb d_M_sitsFor_21 ?_
    refine lv_iadd hx hb d_M_sitsFor_22 ?_
    refine lv_bipush (v := 6) hx hb d_M_sitsFor_23 rfl ?_
    refine lv_iload_n hx hb d_M_sitsFor_25 rfl (lv_at hl 3 rfl) ?_
    refine lv_imul hx hb d_M_sitsFor_26 ?_
    refine lv_iadd hx hb d_M_sitsFor_27 ?_
    refine lv_iload hx hb d_M_sitsFor_28 (lv_at hl 4 rfl) ?_
    refine lv_iadd hx hb d_M_sitsFor_30 ?_
    obtain ⟨x3, hx3, hf⟩ := xlt_some hf
    refine xr_name hx3 ?_
    refine lv_istore (lv' := [(6, .int x3), (0, .ref (ad 0)), (1, .int a1), (2, .int a2), (3, .int a3), (4, .int a4), (5, .int a5)]) hx hb d_M_sitsFor_31 hl (by decide) rfl (fun ls hl => ?_)
    refine lv_aload_n hx hb d_M_sitsFor_33 rfl (lv_at hl 1 rfl) ?_
    refine xr_getr hx hb hT hown hK hP sM_0 rfl inM 18 (by decide) wf_M_59 rfl d_M_sitsFor_34 ?_
    refine lv_iload hx hb d_M_sitsFor_37 (lv_at hl 0 rfl) ?_
    obtain ⟨g4, hf⟩ := xgd_some hf
    refine xr_iald hx hb hK hP sM_17 g4 d_M_sitsFor_39 ?_
    refine lv_if_le (tgt := 59) hx hb d_M_sitsFor_40 rfl (fun hc => ?_) (fun hc => ?_)
    · have hf := ite_t hc hf
      exact K59  _  (lv_sub hl [] rfl) hf
    · have hf := ite_f hc hf
      refine lv_aload_n hx hb d_M_sitsFor_43 rfl (lv_at hl 1 rfl) ?_
      refine xr_getr hx hb hT hown hK hP sM_0 rfl inM 19 (by decide) wf_M_62 rfl d_M_sitsFor_44 ?_
      refine lv_iload hx hb d_M_sitsFor_47 (lv_at hl 0 rfl) ?_
      obtain ⟨g5, hf⟩ := xgd_some hf
      refine xr_iald hx hb hK hP sM_18 g5 d_M_sitsFor_49 ?_
      refine lv_iload hx hb d_M_sitsFor_50 (lv_at hl 6 rfl) ?_
      refine lv_icmp_ne (tgt := 59) hx hb d_M_sitsFor_52 rfl (fun hc => ?_) (fun hc => ?_)
      · have hf := ite_f hc hf
        exact K59  _  (lv_sub hl [] rfl) hf
      · have hf := ite_t hc hf
        refine lv_iconst (v := 1) hx hb d_M_sitsFor_55 rfl ?_
        refine lv_goto (tgt := 60) hx hb d_M_sitsFor_56 rfl ?_
        exact K60 1 _  (lv_sub hl [] rfl) hf
  · have hf := ite_t hc hf
    refine lv_iconst (v := 0) hx hb d_M_sitsFor_11 rfl ?_
    obtain ⟨z6, hf⟩ := xgd_some hf
    exact xr_zret hx hb hr hlk z6 (Option.some.inj hf) d_M_sitsFor_12
noncomputable def fM_seatFor_191 (M : Mem) : Option (Int32) := some (-1)
noncomputable def fM_seatFor_185 (v1 v2 v3 v4 : Int32) (M : Mem) : Option (((Int32) ⊕ (Int32)) ⊕ (Int32)) := xlt (v4 + 1) (fun x1 => some (.inr x1))
noncomputable def fM_seatFor_170 (v1 v2 v3 v4 v8 s170_0 : Int32) (M : Mem) : Option (((Int32) ⊕ (Int32)) ⊕ (Int32)) := if v8 = 0 then (fM_seatFor_185 v1 v2 v3 v4 M) else (if s170_0 = 0 then (some (.inl (.inl v4))) else (fM_seatFor_185 v1 v2 v3 v4 M))
noncomputable def fM_seatFor_165 (v1 v2 v3 v4 v8 : Int32) (M : Mem) : Option (((Int32) ⊕ (Int32)) ⊕ (Int32)) := fM_seatFor_170 v1 v2 v3 v4 v8 1 M
noncomputable def fM_seatFor_95 (v1 v2 v3 v4 v5 v6 v7 s95_0 : Int32) (M : Mem) : Option (((Int32) ⊕ (Int32)) ⊕ (Int32)) := xbd (fM_sitsFor v1 v5 v6 (v7 - 1) v3 M) (fun r2 => if r2 = 0 then (xbd (fM_sitsFor v1 v5 v6 (v7 + 1) v3 M) (fun r3 => if r3 = 0 then (xbd (fM_sitsFor v1 v5 (v6 - 1) v7 v3 M) (fun r4 => if r4 = 0 then (xbd (fM_sitsFor v1 v5 (v6 + 1) v7 v3 M) (fun r5 => if r5 = 0 then (fM_seatFor_170 v1 v2 v3 v4 s95_0 0 M) else (fM_seatFor_165 v1 v2 v3 v4 s95_0 M))) else (fM_seatFor_165 v1 v2 v3 v4 s95_0 M))) else (fM_seatFor_165 v1 v2 v3 v4 s95_0 M))) else (fM_seatFor_165 v1 v2 v3 v4 s95_0 M))
noncomputable def fM_seatFor_94 (v1 v2 v3 v4 v5 v6 v7 : Int32) (M : Mem) : Option (((Int32) ⊕ (Int32)) ⊕ (Int32)) := fM_seatFor_95 v1 v2 v3 v4 v5 v6 v7 0 M
noncomputable def gM_seatFor_3 (v1 v2 v3 : Int32) (M : Mem) (v4 : Int32) : Option (((Int32) ⊕ (Int32)) ⊕ (Int32)) := if 144 ≤ v4 then (some (.inl (.inr v4))) else (xlt ((v4 / 36)) (fun x6 => xlt (((v4 - v4 / 36 * 36) / 6)) (fun x7 => xlt ((v4 - v4 / 6 * 6)) (fun x8 => xbd (fM_isSeat x6 x7 x8 M) (fun r9 => if r9 = 0 then (fM_seatFor_94 v1 v2 v3 v4 x6 x7 x8 M) else (xgd (vp_in x6 4) (xgd (vp_in v2 40) (if (M 15 x6.toNatClampNeg) = (M 5 v2.toNatClampNeg) then (xgd (vp_in v4 144) (if (M 16 v4.toNatClampNeg) = 0 then (xlt (((144 * v1) + v4)) (fun x13 => xgd (vp_in x13 864) (if (M 17 x13.toNatClampNeg) = 0 then (fM_seatFor_95 v1 v2 v3 v4 x6 x7 x8 1 M) else (fM_seatFor_94 v1 v2 v3 v4 x6 x7 x8 M)))) else (fM_seatFor_94 v1 v2 v3 v4 x6 x7 x8 M))) else (fM_seatFor_94 v1 v2 v3 v4 x6 x7 x8 M)))))))))
noncomputable def bM_seatFor_3 (v1 v2 v3 : Int32) (M : Mem) : Int32 → Option (((Int32) ⊕ (Int32)) ⊕ (Int32)) := fun st => gM_seatFor_3 v1 v2 v3 M st
noncomputable def fM_seatFor (a1 a2 a3 : Int32) (M : Mem) : Option (Int32) := xbd (xlp (bM_seatFor_3 a1 a2 a3 M) 0) (fun e3 => Sum.elim (fun r3 => some r3) (fun t3 => fM_seatFor_191  M) e3)
set_option maxHeartbeats 4000000 in
set_option maxRecDepth 100000 in
theorem tM_seatFor (l : Launch) (G : va_G) (c3 : ClassId × ClassId × ClassId) (ad : Nat → Nat) (M : Mem) (a1 a2 a3 : Int32) (out : Int32) (hf : fM_seatFor a1 a2 a3 M = some out) : RMet l yM_seatFor cM_seatFor 10 (some .int) (rm0_ 3 69) G kl SM c3 ad M [.ref (ad 0), .int a1, .int a2, .int a3] out := by
  refine RMet.of (by decide +kernel) (Nat.le_of_ble_eq_true rfl) (fun p e s m args below meth c ls F hT hK hP hr hlk hl => ?_)
  have hx := F.1
  have hb := F.2.1
  have F : CallFix p m c cM_seatFor 10 s args gw RM := F
  have hown := F.2.2.2.1
  have hl : lv_has ls 10 [(0, .ref (ad 0)), (1, .int a1), (2, .int a2), (3, .int a3)] := hl
  have K191 : ∀ (ls : Array Slot), lv_has ls 10 [] → fM_seatFor_191  M = some out → W p l e (rm0_ 3 69) s m args below meth c s.heap [] 0 0 (MQ below (QcRead out) args s 0 0 (fun _ => False)) (F0 m 191 ls []) := by
    intro  ls  hl hf
    unfold fM_seatFor_191 at hf
    refine lv_iconst (v := (-1)) hx hb d_M_seatFor_191 rfl ?_
    exact xr_iret hx hb hr hlk (Option.some.inj hf) d_M_seatFor_192
  unfold fM_seatFor at hf
  refine lv_iconst (v := 0) hx hb d_M_seatFor_0 rfl ?_
  refine lv_istore (lv' := [(4, .int 0), (0, .ref (ad 0)), (1, .int a1), (2, .int a2), (3, .int a3)]) hx hb d_M_seatFor_1 hl (by decide) rfl (fun ls hl => ?_)
  obtain ⟨e3, he3, hk3⟩ := xbd_some hf
  obtain ⟨n3, hq3⟩ := xlp_n he3
  have LH3 : ∀ (n : Nat) (v4 : Int32) (ls : Array Slot), lv_has ls 10 [(0, .ref (ad 0)), (1, .int a1), (2, .int a2), (3, .int a3), (4, .int v4)] → xwh (bM_seatFor_3 a1 a2 a3 M) n v4 = some e3 → W p l e (rm0_ 3 69) s m args below meth c s.heap [] 0 0 (MQ below (QcRead out) args s 0 0 (fun _ => False)) (F0 m 3 ls []) := by
    intro n
    induction n with
    | zero =>
      intro v4 ls hl hn
      exact xwh_0 hn
    | succ n ih3 =>
      intro v4 ls hl hn3
      obtain ⟨o3, hf, hn3⟩ := xwh_s hn3
      have hf : gM_seatFor_3 a1 a2 a3 M v4 = some o3 := hf
      have K185 : ∀ (v4 : Int32) (ls : Array Slot), lv_has ls 10 [(0, .ref (ad 0)), (1, .int a1), (2, .int a2), (3, .int a3), (4, .int v4)] → fM_seatFor_185 a1 a2 a3 v4 M = some o3 → W p l e (rm0_ 3 69) s m args below meth c s.heap [] 0 0 (MQ below (QcRead out) args s 0 0 (fun _ => False)) (F0 m 185 ls []) := by
        intro v4 ls  hl hf
        unfold fM_seatFor_185 at hf
        obtain ⟨x1, hx1, hf⟩ := xlt_some hf
        refine lv_iinc (k := 4) (lv' := [(4, .int x1), (0, .ref (ad 0)), (1, .int a1), (2, .int a2), (3, .int a3)]) hx hb d_M_seatFor_185 hl rfl hx1 (by decide) rfl (fun ls hl => ?_)
        refine lv_goto (tgt := 3) hx hb d_M_seatFor_188 rfl ?_
        exact ih3 x1 _ (lv_sub hl [1, 2, 3, 4, 0] rfl) (xw_again hf hn3)
      have K170 : ∀ (v4 v8 s170_0 : Int32) (ls : Array Slot), lv_has ls 10 [(0, .ref (ad 0)), (1, .int a1), (2, .int a2), (3, .int a3), (4, .int v4), (8, .int v8)] → fM_seatFor_170 a1 a2 a3 v4 v8 s170_0 M = some o3 → W p l e (rm0_ 3 69) s m args below meth c s.heap [] 0 0 (MQ below (QcRead out) args s 0 0 (fun _ => False)) (F0 m 170 ls [.int s170_0]) := by
        intro v4 v8 s170_0 ls  hl hf
        unfold fM_seatFor_170 at hf
        refine lv_istore (lv' := [(9, .int s170_0), (0, .ref (ad 0)), (1, .int a1), (2, .int a2), (3, .int a3), (4, .int v4), (8, .int v8)]) hx hb d_M_seatFor_170 hl (by decide) rfl (fun ls hl => ?_)
        refine lv_iload hx hb d_M_seatFor_172 (lv_at hl 6 rfl) ?_
        refine lv_if_eq (tgt := 185) hx hb d_M_seatFor_174 rfl (fun hc => ?_) (fun hc => ?_)
        · have hf := ite_t hc hf
          exact K185 v4 _  (lv_sub hl [1, 2, 3, 4, 5] rfl) hf
        · have hf := ite_f hc hf
          refine lv_iload hx hb d_M_seatFor_177 (lv_at hl 0 rfl) ?_
          refine lv_if_ne (tgt := 185) hx hb d_M_seatFor_179 rfl (fun hc => ?_) (fun hc => ?_)
          · have hf := ite_f hc hf
            exact K185 v4 _  (lv_sub hl [1, 2, 3, 4, 5] rfl) hf
          · have hf := ite_t hc hf
            refine lv_iload hx hb d_M_seatFor_182 (lv_at hl 5 rfl) ?_
            have he := xw_exit hf hn3
            subst he
            have hf := hk3
            exact xr_iret hx hb hr hlk (Option.some.inj hf) d_M_seatFor_184
      have K165 : ∀ (v4 v8 : Int32) (ls : Array Slot), lv_has ls 10 [(0, .ref (ad 0)), (1, .int a1), (2, .int a2), (3, .int a3), (4, .int v4), (8, .int v8)] → fM_seatFor_165 a1 a2 a3 v4 v8 M = some o3 → W p l e (rm0_ 3 69) s m args below meth c s.heap [] 0 0 (MQ below (QcRead out) args s 0 0 (fun _ => False)) (F0 m 165 ls []) := by
        intro v4 v8 ls  hl hf
        unfold fM_seatFor_165 at hf
        refine lv_iconst (v := 1) hx hb d_M_seatFor_165 rfl ?_
        refine lv_goto (tgt := 170) hx hb d_M_seatFor_166 rfl ?_
        exact K170 v4 v8 1 _  hl hf
      have K95 : ∀ (v4 v5 v6 v7 s95_0 : Int32) (ls : Array Slot), lv_has ls 10 [(0, .ref (ad 0)), (1, .int a1), (2, .int a2), (3, .int a3), (4, .int v4), (5, .int v5), (6, .int v6), (7, .int v7)] → fM_seatFor_95 a1 a2 a3 v4 v5 v6 v7 s95_0 M = some o3 → W p l e (rm0_ 3 69) s m args below meth c s.heap [] 0 0 (MQ below (QcRead out) args s 0 0 (fun _ => False)) (F0 m 95 ls [.int s95_0]) := by
        intro v4 v5 v6 v7 s95_0 ls  hl hf
        unfold fM_seatFor_95 at hf
        refine lv_istore (lv' := [(8, .int s95_0), (0, .ref (ad 0)), (1, .int a1), (2, .int a2), (3, .int a3), (4, .int v4), (5, .int v5), (6, .int v6), (7, .int v7)]) hx hb d_M_seatFor_95 hl (by decide) rfl (fun ls hl => ?_)
        refine lv_aload_n hx hb d_M_seatFor_97 rfl (lv_at hl 1 rfl) ?_
        refine lv_iload_n hx hb d_M_seatFor_98 rfl (lv_at hl 2 rfl) ?_
        refine lv_iload hx hb d_M_seatFor_99 (lv_at hl 6 rfl) ?_
        refine lv_iload hx hb d_M_seatFor_101 (lv_at hl 7 rfl) ?_
        refine lv_iload hx hb d_M_seatFor_103 (lv_at hl 8 rfl) ?_
        refine lv_iconst (v := 1) hx hb d_M_seatFor_105 rfl ?_
        refine lv_isub hx hb d_M_seatFor_106 ?_
        refine lv_iload_n hx hb d_M_seatFor_107 rfl (lv_at hl 4 rfl) ?_
        obtain ⟨r2, hr2, hf⟩ := xbd_some hf
        refine xc_rv (rest := []) F hT hK hP (tM_sitsFor l G c3 ad M a1 v5 v6 (v7 - 1) a3 r2 hr2) sM_0 rfl wl_M_144 wi_M_sitsFor we_M_sitsFor wn_M wc_M_sitsFor ck_M_sitsFor ⟨rfl, rfl⟩ ⟨by decide, by decide⟩ ⟨Nat.le_refl _, Nat.le_refl _⟩ hl.1 rfl (Nat.le_of_ble_eq_true rfl) d_M_seatFor_108 ?_
        refine lv_if_ne (tgt := 165) hx hb d_M_seatFor_111 rfl (fun hc => ?_) (fun hc => ?_)
        · have hf := ite_f hc hf
          exact K165 v4 s95_0 _  (lv_sub hl [1, 2, 3, 4, 5, 0] rfl) hf
        · have hf := ite_t hc hf
          refine lv_aload_n hx hb d_M_seatFor_114 rfl (lv_at hl 1 rfl) ?_
          refine lv_iload_n hx hb d_M_seatFor_115 rfl (lv_at hl 2 rfl) ?_
          refine lv_iload hx hb d_M_seatFor_116 (lv_at hl 6 rfl) ?_
          refine lv_iload hx hb d_M_seatFor_118 (lv_at hl 7 rfl) ?_
          refine lv_iload hx hb d_M_seatFor_120 (lv_at hl 8 rfl) ?_
          refine lv_iconst (v := 1) hx hb d_M_seatFor_122 rfl ?_
          refine lv_iadd hx hb d_M_seatFor_123 ?_
          refine lv_iload_n hx hb d_M_seatFor_124 rfl (lv_at hl 4 rfl) ?_
          obtain ⟨r3, hr3, hf⟩ := xbd_some hf
          refine xc_rv (rest := []) F hT hK hP (tM_sitsFor l G c3 ad M a1 v5 v6 (v7 + 1) a3 r3 hr3) sM_0 rfl wl_M_144 wi_M_sitsFor we_M_sitsFor wn_M wc_M_sitsFor ck_M_sitsFor ⟨rfl, rfl⟩ ⟨by decide, by decide⟩ ⟨Nat.le_refl _, Nat.le_refl _⟩ hl.1 rfl (Nat.le_of_ble_eq_true rfl) d_M_seatFor_125 ?_
          refine lv_if_ne (tgt := 165) hx hb d_M_seatFor_128 rfl (fun hc => ?_) (fun hc => ?_)
          · have hf := ite_f hc hf
            exact K165 v4 s95_0 _  (lv_sub hl [1, 2, 3, 4, 5, 0] rfl) hf
          · have hf := ite_t hc hf
            refine lv_aload_n hx hb d_M_seatFor_131 rfl (lv_at hl 1 rfl) ?_
            refine lv_iload_n hx hb d_M_seatFor_132 rfl (lv_at hl 2 rfl) ?_
            refine lv_iload hx hb d_M_seatFor_133 (lv_at hl 6 rfl) ?_
            refine lv_iload hx hb d_M_seatFor_135 (lv_at hl 7 rfl) ?_
            refine lv_iconst (v := 1) hx hb d_M_seatFor_137 rfl ?_
            refine lv_isub hx hb d_M_seatFor_138 ?_
            refine lv_iload hx hb d_M_seatFor_139 (lv_at hl 8 rfl) ?_
            refine lv_iload_n hx hb d_M_seatFor_141 rfl (lv_at hl 4 rfl) ?_
            obtain ⟨r4, hr4, hf⟩ := xbd_some hf
            refine xc_rv (rest := []) F hT hK hP (tM_sitsFor l G c3 ad M a1 v5 (v6 - 1) v7 a3 r4 hr4) sM_0 rfl wl_M_144 wi_M_sitsFor we_M_sitsFor wn_M wc_M_sitsFor ck_M_sitsFor ⟨rfl, rfl⟩ ⟨by decide, by decide⟩ ⟨Nat.le_refl _, Nat.le_refl _⟩ hl.1 rfl (Nat.le_of_ble_eq_true rfl) d_M_seatFor_142 ?_
            refine lv_if_ne (tgt := 165) hx hb d_M_seatFor_145 rfl (fun hc => ?_) (fun hc => ?_)
            · have hf := ite_f hc hf
              exact K165 v4 s95_0 _  (lv_sub hl [1, 2, 3, 4, 5, 0] rfl) hf
            · have hf := ite_t hc hf
              refine lv_aload_n hx hb d_M_seatFor_148 rfl (lv_at hl 1 rfl) ?_
              refine lv_iload_n hx hb d_M_seatFor_149 rfl (lv_at hl 2 rfl) ?_
              refine lv_iload hx hb d_M_seatFor_150 (lv_at hl 6 rfl) ?_
              refine lv_iload hx hb d_M_seatFor_152 (lv_at hl 7 rfl) ?_
              refine lv_iconst (v := 1) hx hb d_M_seatFor_154 rfl ?_
              refine lv_iadd hx hb d_M_seatFor_155 ?_
              refine lv_iload hx hb d_M_seatFor_156 (lv_at hl 8 rfl) ?_
              refine lv_iload_n hx hb d_M_seatFor_158 rfl (lv_at hl 4 rfl) ?_
              obtain ⟨r5, hr5, hf⟩ := xbd_some hf
              refine xc_rv (rest := []) F hT hK hP (tM_sitsFor l G c3 ad M a1 v5 (v6 + 1) v7 a3 r5 hr5) sM_0 rfl wl_M_144 wi_M_sitsFor we_M_sitsFor wn_M wc_M_sitsFor ck_M_sitsFor ⟨rfl, rfl⟩ ⟨by decide, by decide⟩ ⟨Nat.le_refl _, Nat.le_refl _⟩ hl.1 rfl (Nat.le_of_ble_eq_true rfl) d_M_seatFor_159 ?_
              refine lv_if_eq (tgt := 169) hx hb d_M_seatFor_162 rfl (fun hc => ?_) (fun hc => ?_)
              · have hf := ite_t hc hf
                refine lv_iconst (v := 0) hx hb d_M_seatFor_169 rfl ?_
                exact K170 v4 s95_0 0 _  (lv_sub hl [1, 2, 3, 4, 5, 0] rfl) hf
              · have hf := ite_f hc hf
                exact K165 v4 s95_0 _  (lv_sub hl [1, 2, 3, 4, 5, 0] rfl) hf
      have K94 : ∀ (v4 v5 v6 v7 : Int32) (ls : Array Slot), lv_has ls 10 [(0, .ref (ad 0)), (1, .int a1), (2, .int a2), (3, .int a3), (4, .int v4), (5, .int v5), (6, .int v6), (7, .int v7)] → fM_seatFor_94 a1 a2 a3 v4 v5 v6 v7 M = some o3 → W p l e (rm0_ 3 69) s m args below meth c s.heap [] 0 0 (MQ below (QcRead out) args s 0 0 (fun _ => False)) (F0 m 94 ls []) := by
        intro v4 v5 v6 v7 ls  hl hf
        unfold fM_seatFor_94 at hf
        refine lv_iconst (v := 0) hx hb d_M_seatFor_94 rfl ?_
        exact K95 v4 v5 v6 v7 0 _  hl hf
      unfold gM_seatFor_3 at hf
      refine lv_iload hx hb d_M_seatFor_3 (lv_at hl 4 rfl) ?_
      refine lv_sipush (v := 144) hx hb d_M_seatFor_5 rfl ?_
      refine lv_icmp_ge (tgt := 191) hx hb d_M_seatFor_8 rfl (fun hc => ?_) (fun hc => ?_)
      · have hf := ite_t hc hf
        have he := xw_exit hf hn3
        subst he
        have hf := hk3
        exact K191  _  (lv_sub hl [] rfl) hf
      · have hf := ite_f hc hf
        refine lv_iload hx hb d_M_seatFor_11 (lv_at hl 4 rfl) ?_
        refine lv_bipush (v := 36) hx hb d_M_seatFor_13 rfl ?_
        refine lv_idiv hx hb d_M_seatFor_15 (by decide) ?_
        obtain ⟨x6, hx6, hf⟩ := xlt_some hf
        refine xr_name hx6 ?_
        refine lv_istore (lv' := [(5, .int x6), (0, .ref (ad 0)), (1, .int a1), (2, .int a2), (3, .int a3), (4, .int v4)]) hx hb d_M_seatFor_16 hl (by decide) rfl (fun ls hl => ?_)
        refine lv_iload hx hb d_M_seatFor_18 (lv_at hl 5 rfl) ?_
        refine lv_bipush (v := 36) hx hb d_M_seatFor_20 rfl ?_
        refine lv_irem hx hb d_M_seatFor_22 (by decide) ?_
        refine lv_bipush (v := 6) hx hb d_M_seatFor_23 rfl ?_
        refine lv_idiv hx hb d_M_seatFor_25 (by decide) ?_
        obtain ⟨x7, hx7, hf⟩ := xlt_some hf
        refine xr_name hx7 ?_
        refine lv_istore (lv' := [(6, .int x7), (5, .int x6), (0, .ref (ad 0)), (1, .int a1), (2, .int a2), (3, .int a3), (4, .int v4)]) hx hb d_M_seatFor_26 hl (by decide) rfl (fun ls hl => ?_)
        refine lv_iload hx hb d_M_seatFor_28 (lv_at hl 6 rfl) ?_
        refine lv_bipush (v := 6) hx hb d_M_seatFor_30 rfl ?_
        refine lv_irem hx hb d_M_seatFor_32 (by decide) ?_
        obtain ⟨x8, hx8, hf⟩ := xlt_some hf
        refine xr_name hx8 ?_
        refine lv_istore (lv' := [(7, .int x8), (6, .int x7), (5, .int x6), (0, .ref (ad 0)), (1, .int a1), (2, .int a2), (3, .int a3), (4, .int v4)]) hx hb d_M_seatFor_33 hl (by decide) rfl (fun ls hl => ?_)
        refine lv_aload_n hx hb d_M_seatFor_35 rfl (lv_at hl 3 rfl) ?_
        refine lv_iload hx hb d_M_seatFor_36 (lv_at hl 2 rfl) ?_
        refine lv_iload hx hb d_M_seatFor_38 (lv_at hl 1 rfl) ?_
        refine lv_iload hx hb d_M_seatFor_40 (lv_at hl 0 rfl) ?_
        obtain ⟨r9, hr9, hf⟩ := xbd_some hf
        refine xc_rv (rest := []) F hT hK hP (tM_isSeat l G c3 ad M x6 x7 x8 r9 hr9) sM_0 rfl wl_M_141 wi_M_isSeat we_M_isSeat wn_M wc_M_isSeat ck_M_isSeat ⟨rfl, rfl⟩ ⟨by decide, by decide⟩ ⟨Nat.le_refl _, Nat.le_refl _⟩ hl.1 rfl (Nat.le_of_ble_eq_true rfl) d_M_seatFor_42 ?_
        refine lv_if_eq (tgt := 94) hx hb d_M_seatFor_45 rfl (fun hc => ?_) (fun hc => ?_)
        · have hf := ite_t hc hf
          exact K94 v4 x6 x7 x8 _  (lv_sub hl [3, 4, 5, 6, 7, 2, 1, 0] rfl) hf
        · have hf := ite_f hc hf
          refine lv_aload_n hx hb d_M_seatFor_48 rfl (lv_at hl 3 rfl) ?_
          refine xr_getr hx hb hT hown hK hP sM_0 rfl inM 16 (by decide) wf_M_53 rfl d_M_seatFor_49 ?_
          refine lv_iload hx hb d_M_seatFor_52 (lv_at hl 2 rfl) ?_
          obtain ⟨g10, hf⟩ := xgd_some hf
          refine xr_zald hx hb hK hP sM_15 g10 d_M_seatFor_54 ?_
          refine lv_aload_n hx hb d_M_seatFor_55 rfl (lv_at hl 3 rfl) ?_
          refine xr_getr hx hb hT hown hK hP sM_0 rfl inM 5 (by decide) wf_M_23 rfl d_M_seatFor_56 ?_
          refine lv_iload_n hx hb d_M_seatFor_59 rfl (lv_at hl 5 rfl) ?_
          obtain ⟨g11, hf⟩ := xgd_some hf
          refine xr_zald hx hb hK hP sM_5 g11 d_M_seatFor_60 ?_
          refine lv_icmp_ne (tgt := 94) hx hb d_M_seatFor_61 rfl (fun hc => ?_) (fun hc => ?_)
          · have hf := ite_f hc hf
            exact K94 v4 x6 x7 x8 _  (lv_sub hl [3, 4, 5, 6, 7, 2, 1, 0] rfl) hf
          · have hf := ite_t hc hf
            refine lv_aload_n hx hb d_M_seatFor_64 rfl (lv_at hl 3 rfl) ?_
            refine xr_getr hx hb hT hown hK hP sM_0 rfl inM 17 (by decide) wf_M_56 rfl d_M_seatFor_65 ?_
            refine lv_iload hx hb d_M_seatFor_68 (lv_at hl 7 rfl) ?_
            obtain ⟨g12, hf⟩ := xgd_some hf
            refine xr_zald hx hb hK hP sM_16 g12 d_M_seatFor_70 ?_
            refine lv_if_ne (tgt := 94) hx hb d_M_seatFor_71 rfl (fun hc => ?_) (fun hc => ?_)
            · have hf := ite_f hc hf
              exact K94 v4 x6 x7 x8 _  (lv_sub hl [3, 4, 5, 6, 7, 2, 1, 0] rfl) hf
            · have hf := ite_t hc hf
              refine lv_aload_n hx hb d_M_seatFor_74 rfl (lv_at hl 3 rfl) ?_
              refine xr_getr hx hb hT hown hK hP sM_0 rfl inM 18 (by decide) wf_M_59 rfl d_M_seatFor_75 ?_
              refine lv_sipush (v := 144) hx hb d_M_seatFor_78 rfl ?_
              refine lv_iload_n hx hb d_M_seatFor_81 rfl (lv_at hl 4 rfl) ?_
              refine lv_imul hx hb d_M_seatFor_82 ?_
              refine lv_iload hx hb d_M_seatFor_83 (lv_at hl 7 rfl) ?_
              refine lv_iadd hx hb d_M_seatFor_85 ?_
              obtain ⟨x13, hx13, hf⟩ := xlt_some hf
              refine xr_name hx13 ?_
              obtain ⟨g14, hf⟩ := xgd_some hf
              refine xr_iald hx hb hK hP sM_17 g14 d_M_seatFor_86 ?_
              refine lv_if_ne (tgt := 94) hx hb d_M_seatFor_87 rfl (fun hc => ?_) (fun hc => ?_)
              · have hf := ite_f hc hf
                exact K94 v4 x6 x7 x8 _  (lv_sub hl [3, 4, 5, 6, 7, 2, 1, 0] rfl) hf
              · have hf := ite_t hc hf
                refine lv_iconst (v := 1) hx hb d_M_seatFor_90 rfl ?_
                refine lv_goto (tgt := 95) hx hb d_M_seatFor_91 rfl ?_
                exact K95 v4 x6 x7 x8 1 _  (lv_sub hl [3, 4, 5, 6, 7, 2, 1, 0] rfl) hf
  exact LH3 n3 0 _ (lv_sub hl [1, 2, 3, 4, 0] rfl) hq3
noncomputable def fM_seat_118 (v2 : Int32) (M : Mem) : Option (Int32 × Mem) := some (v2, M)
noncomputable def fM_seat_112 (v1 v2 v3 : Int32) (M : Mem) : Option ((Int32 × Int32 × Mem) ⊕ (Int32 × Int32 × Mem)) := xlt (v3 + 1) (fun x1 => some (.inr (v2, x1, M)))
noncomputable def fM_seat_74 (v1 v3 v4 v5 s74_0 : Int32) (M : Mem) : Option ((Int32 × Int32 × Mem) ⊕ (Int32 × Int32 × Mem)) := if v5 = (-1) then (fM_seat_112 v1 s74_0 v3 M) else (xgd (vp_in ((144 * v1) + v5) 864) (xlt (up2 M 17 (((144 * v1) + v5).toNatClampNeg) (v3 + 1)) (fun M3 => xgd (vp_in ((144 * v1) + v5) 864) (xlt (up2 M3 18 (((144 * v1) + v5).toNatClampNeg) v4) (fun M5 => fM_seat_112 v1 s74_0 v3 M5)))))
noncomputable def gM_seat_21 (v1 : Int32) (v2 v3 : Int32) (M : Mem) : Option ((Int32 × Int32 × Mem) ⊕ (Int32 × Int32 × Mem)) := if 40 ≤ v3 then (some (.inl (v2, v3, M))) else (xbd (fM_paperOf v3 v1 M) (fun r6 => if r6 = (-1) then (fM_seat_112 v1 v2 v3 M) else (xbd (fM_place v3 v1 M) (fun r7 => if r7 = (-1) then (xbd (fM_seatFor v1 v3 r6 M) (fun r8 => if r8 = (-1) then (fM_seat_74 v1 v3 r6 r8 (v2 + 1) M) else (fM_seat_74 v1 v3 r6 r8 v2 M))) else (fM_seat_112 v1 v2 v3 M)))))
noncomputable def bM_seat_21 (v1 : Int32) : Int32 × Int32 × Mem → Option ((Int32 × Int32 × Mem) ⊕ (Int32 × Int32 × Mem)) := fun st => gM_seat_21 v1 st.1 st.2.1 st.2.2
noncomputable def fM_seat (a1 : Int32) (M : Mem) : Option (Int32 × Mem) := xbd (fM_isSession a1) (fun r9 => xbd (fM_goes r9 (M 0 7) M) (fun r10 => if r10.1 = 0 then (some (0, r10.2)) else (xbd (xlp (bM_seat_21 a1) (0, 0, r10.2)) (fun e21 => fM_seat_118 e21.1 e21.2.2))))
set_option maxHeartbeats 4000000 in
set_option maxRecDepth 100000 in
theorem tM_seat (l : Launch) (G : va_G) (c3 : ClassId × ClassId × ClassId) (ad : Nat → Nat) (hd : adI SM ad) (M : Mem) (a1 : Int32) (o1 : Int32) (o2 : Mem) (hf : fM_seat a1 M = some (o1, o2)) : WMet l yM_seat cM_seat 6 (some .int) (rm0_ 4 98) G kl SM c3 ad M [.ref (ad 0), .int a1] (some (.int o1)) o2 := by
  generalize hout : (o1, o2) = out at hf
  obtain rfl : out.1 = o1 := by rw [← hout]
  obtain rfl : out.2 = o2 := by rw [← hout]
  clear hout
  refine WMet.of (by decide +kernel) (Nat.le_of_ble_eq_true rfl) (fun p e s m args below meth c ls F hT hK hP hr hlk hl hS => ?_)
  have hx := F.1
  have hb := F.2.1
  have F : CallFix p m c cM_seat 6 s args gw RM := F
  have hown := F.2.2.2.1
  have hl : lv_has ls 6 [(0, .ref (ad 0)), (1, .int a1)] := hl
  revert hP hS
  suffices hall : ∀ (H : Heap) (locs : List Loc), va_P G kl (wd SM c3 ad M) H → va_S (adA SM ad) s.heap H locs → W p l e (rm0_ 4 98) s m args below meth c H locs 0 0 (MQ below (QW G kl SM c3 ad (some (.int out.1)) out.2) args s 0 0 (adA SM ad)) (F0 m 0 ls []) from hall s.heap []
  intro H locs hP hS
  have K118 : ∀ (v2 : Int32) (M : Mem) (H : Heap) (locs : List Loc) (ls : Array Slot), lv_has ls 6 [(2, .int v2)] → va_P G kl (wd SM c3 ad M) H → va_S (adA SM ad) s.heap H locs → fM_seat_118 v2 M = some out → W p l e (rm0_ 4 98) s m args below meth c H locs 0 0 (MQ below (QW G kl SM c3 ad (some (.int out.1)) out.2) args s 0 0 (adA SM ad)) (F0 m 118 ls []) := by
    intro v2 M H locs ls  hl hP hS hf
    unfold fM_seat_118 at hf
    refine lv_iload_n hx hb d_M_seat_118 rfl (lv_at hl 0 rfl) ?_
    exact xw_iret hx hb hr hlk hP hS (Option.some.inj hf) d_M_seat_119
  unfold fM_seat at hf
  refine lv_aload_n hx hb d_M_seat_0 rfl (lv_at hl 0 rfl) ?_
  refine lv_iload_n hx hb d_M_seat_1 rfl (lv_at hl 1 rfl) ?_
  obtain ⟨r1, hr1, hf⟩ := xbd_some hf
  refine xc_rs (rest := [.ref (ad 0)]) F hT hK hP (tM_isSession l G c3 ad M a1 r1 hr1) wl_M_104 ws_M_isSession wn_M wc_M_isSession ck_M_isSession ⟨rfl, rfl⟩ ⟨by decide, by decide⟩ ⟨Nat.le_refl _, Nat.le_refl _⟩ hl.1 rfl (Nat.le_of_ble_eq_true rfl) d_M_seat_2 ?_
  refine lv_aload_n hx hb d_M_seat_5 rfl (lv_at hl 0 rfl) ?_
  refine xr_geti hx hb hT hown hK hP sM_0 rfl inM 7 (by decide) wf_M_85 rfl d_M_seat_6 ?_
  obtain ⟨r2, hr2, hf⟩ := xbd_some hf
  refine xc_wv (rest := []) F hT hK hP hS (fun _ h => h) (tM_goes l G c3 ad hd M r1 (M 0 7) r2.1 r2.2 hr2) sM_0 rfl wl_M_97 wi_M_goes we_M_goes wn_M wc_M_goes ck_M_goes ⟨rfl, rfl⟩ ⟨by decide, by decide⟩ ⟨Nat.le_refl _, Nat.le_refl _⟩ hl.1 rfl (Nat.le_of_ble_eq_true rfl) d_M_seat_9 (fun H locs hP hS _ => ?_)
  refine lv_if_ne (tgt := 17) hx hb d_M_seat_12 rfl (fun hc => ?_) (fun hc => ?_)
  · have hf := ite_f hc hf
    refine lv_iconst (v := 0) hx hb d_M_seat_17 rfl ?_
    refine lv_istore_n (lv' := [(2, .int 0), (0, .ref (ad 0)), (1, .int a1)]) hx hb d_M_seat_18 rfl hl (by decide) rfl (fun ls hl => ?_)
    refine lv_iconst (v := 0) hx hb d_M_seat_19 rfl ?_
    refine lv_istore_n (lv' := [(3, .int 0), (2, .int 0), (0, .ref (ad 0)), (1, .int a1)]) hx hb d_M_seat_20 rfl hl (by decide) rfl (fun ls hl => ?_)
    obtain ⟨e21, he21, hk21⟩ := xbd_some hf
    obtain ⟨n21, hq21⟩ := xlp_n he21
    have LH21 : ∀ (n : Nat) (v2 v3 : Int32) (M : Mem) (H : Heap) (locs : List Loc) (ls : Array Slot), lv_has ls 6 [(0, .ref (ad 0)), (1, .int a1), (2, .int v2), (3, .int v3)] → va_P G kl (wd SM c3 ad M) H → va_S (adA SM ad) s.heap H locs → xwh (bM_seat_21 a1) n (v2, v3, M) = some e21 → W p l e (rm0_ 4 98) s m args below meth c H locs 0 0 (MQ below (QW G kl SM c3 ad (some (.int out.1)) out.2) args s 0 0 (adA SM ad)) (F0 m 21 ls []) := by
      intro n
      induction n with
      | zero =>
        intro v2 v3 M H locs ls hl hP hS hn
        exact xwh_0 hn
      | succ n ih21 =>
        intro v2 v3 M H locs ls hl hP hS hn21
        obtain ⟨o21, hf, hn21⟩ := xwh_s hn21
        have hf : gM_seat_21 a1 v2 v3 M = some o21 := hf
        have K112 : ∀ (v2 v3 : Int32) (M : Mem) (H : Heap) (locs : List Loc) (ls : Array Slot), lv_has ls 6 [(0, .ref (ad 0)), (1, .int a1), (2, .int v2), (3, .int v3)] → va_P G kl (wd SM c3 ad M) H → va_S (adA SM ad) s.heap H locs → fM_seat_112 a1 v2 v3 M = some o21 → W p l e (rm0_ 4 98) s m args below meth c H locs 0 0 (MQ below (QW G kl SM c3 ad (some (.int out.1)) out.2) args s 0 0 (adA SM ad)) (F0 m 112 ls []) := by
          intro v2 v3 M H locs ls  hl hP hS hf
          unfold fM_seat_112 at hf
          obtain ⟨x3, hx3, hf⟩ := xlt_some hf
          refine lv_iinc (k := 3) (lv' := [(3, .int x3), (0, .ref (ad 0)), (1, .int a1), (2, .int v2)]) hx hb d_M_seat_112 hl rfl hx3 (by decide) rfl (fun ls hl => ?_)
          refine lv_goto (tgt := 21) hx hb d_M_seat_115 rfl ?_
          exact ih21 v2 x3 M _ _ _ (lv_sub hl [1, 2, 3, 0] rfl) hP hS (xw_again hf hn21)
        have K74 : ∀ (v3 v4 v5 s74_0 : Int32) (M : Mem) (H : Heap) (locs : List Loc) (ls : Array Slot), lv_has ls 6 [(0, .ref (ad 0)), (1, .int a1), (3, .int v3), (4, .int v4), (5, .int v5)] → va_P G kl (wd SM c3 ad M) H → va_S (adA SM ad) s.heap H locs → fM_seat_74 a1 v3 v4 v5 s74_0 M = some o21 → W p l e (rm0_ 4 98) s m args below meth c H locs 0 0 (MQ below (QW G kl SM c3 ad (some (.int out.1)) out.2) args s 0 0 (adA SM ad)) (F0 m 74 ls [.int s74_0]) := by
          intro v3 v4 v5 s74_0 M H locs ls  hl hP hS hf
          unfold fM_seat_74 at hf
          refine lv_istore_n (lv' := [(2, .int s74_0), (0, .ref (ad 0)), (1, .int a1), (3, .int v3), (4, .int v4), (5, .int v5)]) hx hb d_M_seat_74 rfl hl (by decide) rfl (fun ls hl => ?_)
          refine lv_iload hx hb d_M_seat_75 (lv_at hl 5 rfl) ?_
          refine lv_iconst (v := (-1)) hx hb d_M_seat_77 rfl ?_
          refine lv_icmp_eq (tgt := 112) hx hb d_M_seat_78 rfl (fun hc => ?_) (fun hc => ?_)
          · have hf := ite_t hc hf
            exact K112 s74_0 v3 M _ _ _  (lv_sub hl [1, 2, 0, 3] rfl) hP hS hf
          · have hf := ite_f hc hf
            refine lv_aload_n hx hb d_M_seat_81 rfl (lv_at hl 1 rfl) ?_
            refine xr_getr hx hb hT hown hK hP sM_0 rfl inM 18 (by decide) wf_M_59 rfl d_M_seat_82 ?_
            refine lv_sipush (v := 144) hx hb d_M_seat_85 rfl ?_
            refine lv_iload_n hx hb d_M_seat_88 rfl (lv_at hl 2 rfl) ?_
            refine lv_imul hx hb d_M_seat_89 ?_
            refine lv_iload hx hb d_M_seat_90 (lv_at hl 5 rfl) ?_
            refine lv_iadd hx hb d_M_seat_92 ?_
            refine lv_iload_n hx hb d_M_seat_93 rfl (lv_at hl 3 rfl) ?_
            refine lv_iconst (v := 1) hx hb d_M_seat_94 rfl ?_
            refine lv_iadd hx hb d_M_seat_95 ?_
            obtain ⟨g4, hf⟩ := xgd_some hf
            obtain ⟨M5, hM5, hf⟩ := xlt_some hf
            refine xr_iast hx hb hd hK hP hS sM_17 g4 d_M_seat_96 (fun H locs hP hS => ?_)
            rw [hM5] at hP
            refine lv_aload_n hx hb d_M_seat_97 rfl (lv_at hl 1 rfl) ?_
            refine xr_getr hx hb hT hown hK hP sM_0 rfl inM 19 (by decide) wf_M_62 rfl d_M_seat_98 ?_
            refine lv_sipush (v := 144) hx hb d_M_seat_101 rfl ?_
            refine lv_iload_n hx hb d_M_seat_104 rfl (lv_at hl 2 rfl) ?_
            refine lv_imul hx hb d_M_seat_105 ?_
            refine lv_iload hx hb d_M_seat_106 (lv_at hl 5 rfl) ?_
            refine lv_iadd hx hb d_M_seat_108 ?_
            refine lv_iload hx hb d_M_seat_109 (lv_at hl 4 rfl) ?_
            obtain ⟨g6, hf⟩ := xgd_some hf
            obtain ⟨M7, hM7, hf⟩ := xlt_some hf
            refine xr_iast hx hb hd hK hP hS sM_18 g6 d_M_seat_111 (fun H locs hP hS => ?_)
            rw [hM7] at hP
            exact K112 s74_0 v3 M7 _ _ _  (lv_sub hl [1, 2, 0, 3] rfl) hP hS hf
        unfold gM_seat_21 at hf
        refine lv_iload_n hx hb d_M_seat_21 rfl (lv_at hl 3 rfl) ?_
        refine lv_bipush (v := 40) hx hb d_M_seat_22 rfl ?_
        refine lv_icmp_ge (tgt := 118) hx hb d_M_seat_24 rfl (fun hc => ?_) (fun hc => ?_)
        · have hf := ite_t hc hf
          have he := xw_exit hf hn21
          subst he
          have hf := hk21
          exact K118 v2 M _ _ _  (lv_sub hl [2] rfl) hP hS hf
        · have hf := ite_f hc hf
          refine lv_aload_n hx hb d_M_seat_27 rfl (lv_at hl 0 rfl) ?_
          refine lv_iload_n hx hb d_M_seat_28 rfl (lv_at hl 3 rfl) ?_
          refine lv_iload_n hx hb d_M_seat_29 rfl (lv_at hl 1 rfl) ?_
          obtain ⟨r8, hr8, hf⟩ := xbd_some hf
          refine xc_rv (rest := []) F hT hK hP (tM_paperOf l G c3 ad M v3 a1 r8 hr8) sM_0 rfl wl_M_135 wi_M_paperOf we_M_paperOf wn_M wc_M_paperOf ck_M_paperOf ⟨rfl, rfl⟩ ⟨by decide, by decide⟩ ⟨Nat.le_refl _, Nat.le_refl _⟩ hl.1 rfl (Nat.le_of_ble_eq_true rfl) d_M_seat_30 ?_
          refine lv_istore (lv' := [(4, .int r8), (0, .ref (ad 0)), (1, .int a1), (2, .int v2), (3, .int v3)]) hx hb d_M_seat_33 hl (by decide) rfl (fun ls hl => ?_)
          refine lv_iload hx hb d_M_seat_35 (lv_at hl 0 rfl) ?_
          refine lv_iconst (v := (-1)) hx hb d_M_seat_37 rfl ?_
          refine lv_icmp_eq (tgt := 112) hx hb d_M_seat_38 rfl (fun hc => ?_) (fun hc => ?_)
          · have hf := ite_t hc hf
            exact K112 v2 v3 M _ _ _  (lv_sub hl [1, 2, 3, 4] rfl) hP hS hf
          · have hf := ite_f hc hf
            refine lv_aload_n hx hb d_M_seat_41 rfl (lv_at hl 1 rfl) ?_
            refine lv_iload_n hx hb d_M_seat_42 rfl (lv_at hl 4 rfl) ?_
            refine lv_iload_n hx hb d_M_seat_43 rfl (lv_at hl 2 rfl) ?_
            obtain ⟨r9, hr9, hf⟩ := xbd_some hf
            refine xc_rv (rest := []) F hT hK hP (tM_place l G c3 ad M v3 a1 r9 hr9) sM_0 rfl wl_M_148 wi_M_place we_M_place wn_M wc_M_place ck_M_place ⟨rfl, rfl⟩ ⟨by decide, by decide⟩ ⟨Nat.le_refl _, Nat.le_refl _⟩ hl.1 rfl (Nat.le_of_ble_eq_true rfl) d_M_seat_44 ?_
            refine lv_iconst (v := (-1)) hx hb d_M_seat_47 rfl ?_
            refine lv_icmp_ne (tgt := 112) hx hb d_M_seat_48 rfl (fun hc => ?_) (fun hc => ?_)
            · have hf := ite_f hc hf
              exact K112 v2 v3 M _ _ _  (lv_sub hl [1, 2, 3, 4] rfl) hP hS hf
            · have hf := ite_t hc hf
              refine lv_aload_n hx hb d_M_seat_51 rfl (lv_at hl 1 rfl) ?_
              refine lv_iload_n hx hb d_M_seat_52 rfl (lv_at hl 2 rfl) ?_
              refine lv_iload_n hx hb d_M_seat_53 rfl (lv_at hl 4 rfl) ?_
              refine lv_iload hx hb d_M_seat_54 (lv_at hl 0 rfl) ?_
              obtain ⟨r10, hr10, hf⟩ := xbd_some hf
              refine xc_rv (rest := []) F hT hK hP (tM_seatFor l G c3 ad M a1 v3 r8 r10 hr10) sM_0 rfl wl_M_151 wi_M_seatFor we_M_seatFor wn_M wc_M_seatFor ck_M_seatFor ⟨rfl, rfl⟩ ⟨by decide, by decide⟩ ⟨Nat.le_refl _, Nat.le_refl _⟩ hl.1 rfl (Nat.le_of_ble_eq_true rfl) d_M_seat_56 ?_
              refine lv_istore (lv' := [(5, .int r10), (4, .int r8), (0, .ref (ad 0)), (1, .int a1), (2, .int v2), (3, .int v3)]) hx hb d_M_seat_59 hl (by decide) rfl (fun ls hl => ?_)
              refine lv_iload hx hb d_M_seat_61 (lv_at hl 0 rfl) ?_
              refine lv_iconst (v := (-1)) hx hb d_M_seat_63 rfl ?_
              refine lv_icmp_ne (tgt := 73) hx hb d_M_seat_64 rfl (fun hc => ?_) (fun hc => ?_)
              · have hf := ite_f hc hf
                refine lv_iload_n hx hb d_M_seat_73 rfl (lv_at hl 4 rfl) ?_
                exact K74 v3 r8 r10 v2 M _ _ _  (lv_sub hl [2, 3, 5, 1, 0] rfl) hP hS hf
              · have hf := ite_t hc hf
                refine lv_iload_n hx hb d_M_seat_67 rfl (lv_at hl 4 rfl) ?_
                refine lv_iconst (v := 1) hx hb d_M_seat_68 rfl ?_
                refine lv_iadd hx hb d_M_seat_69 ?_
                refine lv_goto (tgt := 74) hx hb d_M_seat_70 rfl ?_
                exact K74 v3 r8 r10 (v2 + 1) M _ _ _  (lv_sub hl [2, 3, 5, 1, 0] rfl) hP hS hf
    exact LH21 n21 0 0 r2.2 _ _ _ (lv_sub hl [2, 3, 1, 0] rfl) hP hS hq21
  · have hf := ite_t hc hf
    refine lv_iconst (v := 0) hx hb d_M_seat_15 rfl ?_
    exact xw_iret hx hb hr hlk hP hS (Option.some.inj hf) d_M_seat_16
noncomputable def fM_told_32 (s32_0 : Int32) : Option (Int32) := some s32_0
noncomputable def fM_told (a0 : Int32) : Option (Int32) := if a0 = (-1) then (fM_told_32 (-1)) else (fM_told_32 (((100 * (a0 / 36)) + (10 * ((a0 - a0 / 36 * 36) / 6))) + (a0 - a0 / 6 * 6)))
set_option maxHeartbeats 4000000 in
set_option maxRecDepth 100000 in
theorem tM_told (l : Launch) (G : va_G) (c3 : ClassId × ClassId × ClassId) (ad : Nat → Nat) (M : Mem) (a0 : Int32) (out : Int32) (hf : fM_told a0 = some out) : RMet l yM_told cM_told 1 (some .int) (rm0_ 0 0) G kl SM c3 ad M [.int a0] out := by
  refine RMet.of (by decide +kernel) (Nat.le_of_ble_eq_true rfl) (fun p e s m args below meth c ls F hT hK hP hr hlk hl => ?_)
  have hx := F.1
  have hb := F.2.1
  have F : CallFix p m c cM_told 1 s args gw RM := F
  have hown := F.2.2.2.1
  have hl : lv_has ls 1 [(0, .int a0)] := hl
  have K32 : ∀ (s32_0 : Int32) (ls : Array Slot), lv_has ls 1 [] → fM_told_32 s32_0 = some out → W p l e (rm0_ 0 0) s m args below meth c s.heap [] 0 0 (MQ below (QcRead out) args s 0 0 (fun _ => False)) (F0 m 32 ls [.int s32_0]) := by
    intro s32_0 ls  hl hf
    unfold fM_told_32 at hf
    exact xr_iret hx hb hr hlk (Option.some.inj hf) d_M_told_32
  unfold fM_told at hf
  refine lv_iload_n hx hb d_M_told_0 rfl (lv_at hl 0 rfl) ?_
  refine lv_iconst (v := (-1)) hx hb d_M_told_1 rfl ?_
  refine lv_icmp_ne (tgt := 9) hx hb d_M_told_2 rfl (fun hc => ?_) (fun hc => ?_)
  · have hf := ite_f hc hf
    refine lv_bipush (v := 100) hx hb d_M_told_9 rfl ?_
    refine lv_iload_n hx hb d_M_told_11 rfl (lv_at hl 0 rfl) ?_
    refine lv_bipush (v := 36) hx hb d_M_told_12 rfl ?_
    refine lv_idiv hx hb d_M_told_14 (by decide) ?_
    refine lv_imul hx hb d_M_told_15 ?_
    refine lv_bipush (v := 10) hx hb d_M_told_16 rfl ?_
    refine lv_iload_n hx hb d_M_told_18 rfl (lv_at hl 0 rfl) ?_
    refine lv_bipush (v := 36) hx hb d_M_told_19 rfl ?_
    refine lv_irem hx hb d_M_told_21 (by decide) ?_
    refine lv_bipush (v := 6) hx hb d_M_told_22 rfl ?_
    refine lv_idiv hx hb d_M_told_24 (by decide) ?_
    refine lv_imul hx hb d_M_told_25 ?_
    refine lv_iadd hx hb d_M_told_26 ?_
    refine lv_iload_n hx hb d_M_told_27 rfl (lv_at hl 0 rfl) ?_
    refine lv_bipush (v := 6) hx hb d_M_told_28 rfl ?_
    refine lv_irem hx hb d_M_told_30 (by decide) ?_
    refine lv_iadd hx hb d_M_told_31 ?_
    exact K32 (((100 * (a0 / 36)) + (10 * ((a0 - a0 / 36 * 36) / 6))) + (a0 - a0 / 6 * 6)) _  (lv_sub hl [] rfl) hf
  · have hf := ite_t hc hf
    refine lv_iconst (v := (-1)) hx hb d_M_told_5 rfl ?_
    refine lv_goto (tgt := 32) hx hb d_M_told_6 rfl ?_
    exact K32 (-1) _  (lv_sub hl [] rfl) hf
noncomputable def fM_leave_54 (v3 : Int32) (M : Mem) : Option (Int32 × Mem) := xbd (fM_told v3) (fun r1 => some (r1, M))
noncomputable def fM_leave_20 (v1 v2 s20_0 : Int32) (M : Mem) : Option (Int32 × Mem) := xbd (fM_goes s20_0 1 M) (fun r2 => if r2.1 = 0 then (some (0, r2.2)) else (xbd (fM_place v1 v2 r2.2) (fun r3 => if r3 = (-1) then (fM_leave_54 r3 r2.2) else (xgd (vp_in ((144 * v2) + r3) 864) (xlt (up2 r2.2 17 (((144 * v2) + r3).toNatClampNeg) 0) (fun M5 => fM_leave_54 r3 M5))))))
noncomputable def fM_leave_19 (v1 v2 : Int32) (M : Mem) : Option (Int32 × Mem) := fM_leave_20 v1 v2 0 M
noncomputable def fM_leave (a1 a2 : Int32) (M : Mem) : Option (Int32 × Mem) := xbd (fM_isCandidate a1) (fun r6 => if r6 = 0 then (fM_leave_19 a1 a2 M) else (xbd (fM_isSession a2) (fun r7 => if r7 = 0 then (fM_leave_19 a1 a2 M) else (fM_leave_20 a1 a2 1 M))))
set_option maxHeartbeats 4000000 in
set_option maxRecDepth 100000 in
theorem tM_leave (l : Launch) (G : va_G) (c3 : ClassId × ClassId × ClassId) (ad : Nat → Nat) (hd : adI SM ad) (M : Mem) (a1 a2 : Int32) (o1 : Int32) (o2 : Mem) (hf : fM_leave a1 a2 M = some (o1, o2)) : WMet l yM_leave cM_leave 4 (some .int) (rm0_ 1 23) G kl SM c3 ad M [.ref (ad 0), .int a1, .int a2] (some (.int o1)) o2 := by
  generalize hout : (o1, o2) = out at hf
  obtain rfl : out.1 = o1 := by rw [← hout]
  obtain rfl : out.2 = o2 := by rw [← hout]
  clear hout
  refine WMet.of (by decide +kernel) (Nat.le_of_ble_eq_true rfl) (fun p e s m args below meth c ls F hT hK hP hr hlk hl hS => ?_)
  have hx := F.1
  have hb := F.2.1
  have F : CallFix p m c cM_leave 4 s args gw RM := F
  have hown := F.2.2.2.1
  have hl : lv_has ls 4 [(0, .ref (ad 0)), (1, .int a1), (2, .int a2)] := hl
  revert hP hS
  suffices hall : ∀ (H : Heap) (locs : List Loc), va_P G kl (wd SM c3 ad M) H → va_S (adA SM ad) s.heap H locs → W p l e (rm0_ 1 23) s m args below meth c H locs 0 0 (MQ below (QW G kl SM c3 ad (some (.int out.1)) out.2) args s 0 0 (adA SM ad)) (F0 m 0 ls []) from hall s.heap []
  intro H locs hP hS
  have K54 : ∀ (v3 : Int32) (M : Mem) (H : Heap) (locs : List Loc) (ls : Array Slot), lv_has ls 4 [(3, .int v3)] → va_P G kl (wd SM c3 ad M) H → va_S (adA SM ad) s.heap H locs → fM_leave_54 v3 M = some out → W p l e (rm0_ 1 23) s m args below meth c H locs 0 0 (MQ below (QW G kl SM c3 ad (some (.int out.1)) out.2) args s 0 0 (adA SM ad)) (F0 m 54 ls []) := by
    intro v3 M H locs ls  hl hP hS hf
    unfold fM_leave_54 at hf
    refine lv_iload_n hx hb d_M_leave_54 rfl (lv_at hl 0 rfl) ?_
    obtain ⟨r1, hr1, hf⟩ := xbd_some hf
    refine xc_rs (rest := []) F hT hK hP (tM_told l G c3 ad M v3 r1 hr1) wl_M_155 ws_M_told wn_M wc_M_told ck_M_told ⟨rfl, rfl⟩ ⟨by decide, by decide⟩ ⟨Nat.le_refl _, Nat.le_refl _⟩ hl.1 rfl (Nat.le_of_ble_eq_true rfl) d_M_leave_55 ?_
    exact xw_iret hx hb hr hlk hP hS (Option.some.inj hf) d_M_leave_58
  have K20 : ∀ (v1 v2 s20_0 : Int32) (M : Mem) (H : Heap) (locs : List Loc) (ls : Array Slot), lv_has ls 4 [(0, .ref (ad 0)), (1, .int v1), (2, .int v2)] → va_P G kl (wd SM c3 ad M) H → va_S (adA SM ad) s.heap H locs → fM_leave_20 v1 v2 s20_0 M = some out → W p l e (rm0_ 1 23) s m args below meth c H locs 0 0 (MQ below (QW G kl SM c3 ad (some (.int out.1)) out.2) args s 0 0 (adA SM ad)) (F0 m 20 ls [.int s20_0, .ref (ad 0)]) := by
    intro v1 v2 s20_0 M H locs ls  hl hP hS hf
    unfold fM_leave_20 at hf
    refine lv_iconst (v := 1) hx hb d_M_leave_20 rfl ?_
    obtain ⟨r2, hr2, hf⟩ := xbd_some hf
    refine xc_wv (rest := []) F hT hK hP hS (fun _ h => h) (tM_goes l G c3 ad hd M s20_0 1 r2.1 r2.2 hr2) sM_0 rfl wl_M_97 wi_M_goes we_M_goes wn_M wc_M_goes ck_M_goes ⟨rfl, rfl⟩ ⟨by decide, by decide⟩ ⟨Nat.le_refl _, Nat.le_refl _⟩ hl.1 rfl (Nat.le_of_ble_eq_true rfl) d_M_leave_21 (fun H locs hP hS _ => ?_)
    refine lv_if_ne (tgt := 29) hx hb d_M_leave_24 rfl (fun hc => ?_) (fun hc => ?_)
    · have hf := ite_f hc hf
      refine lv_aload_n hx hb d_M_leave_29 rfl (lv_at hl 0 rfl) ?_
      refine lv_iload_n hx hb d_M_leave_30 rfl (lv_at hl 1 rfl) ?_
      refine lv_iload_n hx hb d_M_leave_31 rfl (lv_at hl 2 rfl) ?_
      obtain ⟨r3, hr3, hf⟩ := xbd_some hf
      refine xc_rv (rest := []) F hT hK hP (tM_place l G c3 ad r2.2 v1 v2 r3 hr3) sM_0 rfl wl_M_148 wi_M_place we_M_place wn_M wc_M_place ck_M_place ⟨rfl, rfl⟩ ⟨by decide, by decide⟩ ⟨Nat.le_refl _, Nat.le_refl _⟩ hl.1 rfl (Nat.le_of_ble_eq_true rfl) d_M_leave_32 ?_
      refine lv_istore_n (lv' := [(3, .int r3), (0, .ref (ad 0)), (1, .int v1), (2, .int v2)]) hx hb d_M_leave_35 rfl hl (by decide) rfl (fun ls hl => ?_)
      refine lv_iload_n hx hb d_M_leave_36 rfl (lv_at hl 0 rfl) ?_
      refine lv_iconst (v := (-1)) hx hb d_M_leave_37 rfl ?_
      refine lv_icmp_eq (tgt := 54) hx hb d_M_leave_38 rfl (fun hc => ?_) (fun hc => ?_)
      · have hf := ite_t hc hf
        exact K54 r3 r2.2 _ _ _  (lv_sub hl [0] rfl) hP hS hf
      · have hf := ite_f hc hf
        refine lv_aload_n hx hb d_M_leave_41 rfl (lv_at hl 1 rfl) ?_
        refine xr_getr hx hb hT hown hK hP sM_0 rfl inM 18 (by decide) wf_M_59 rfl d_M_leave_42 ?_
        refine lv_sipush (v := 144) hx hb d_M_leave_45 rfl ?_
        refine lv_iload_n hx hb d_M_leave_48 rfl (lv_at hl 3 rfl) ?_
        refine lv_imul hx hb d_M_leave_49 ?_
        refine lv_iload_n hx hb d_M_leave_50 rfl (lv_at hl 0 rfl) ?_
        refine lv_iadd hx hb d_M_leave_51 ?_
        refine lv_iconst (v := 0) hx hb d_M_leave_52 rfl ?_
        obtain ⟨g4, hf⟩ := xgd_some hf
        obtain ⟨M5, hM5, hf⟩ := xlt_some hf
        refine xr_iast hx hb hd hK hP hS sM_17 g4 d_M_leave_53 (fun H locs hP hS => ?_)
        rw [hM5] at hP
        exact K54 r3 M5 _ _ _  (lv_sub hl [0] rfl) hP hS hf
    · have hf := ite_t hc hf
      refine lv_iconst (v := 0) hx hb d_M_leave_27 rfl ?_
      exact xw_iret hx hb hr hlk hP hS (Option.some.inj hf) d_M_leave_28
  have K19 : ∀ (v1 v2 : Int32) (M : Mem) (H : Heap) (locs : List Loc) (ls : Array Slot), lv_has ls 4 [(0, .ref (ad 0)), (1, .int v1), (2, .int v2)] → va_P G kl (wd SM c3 ad M) H → va_S (adA SM ad) s.heap H locs → fM_leave_19 v1 v2 M = some out → W p l e (rm0_ 1 23) s m args below meth c H locs 0 0 (MQ below (QW G kl SM c3 ad (some (.int out.1)) out.2) args s 0 0 (adA SM ad)) (F0 m 19 ls [.ref (ad 0)]) := by
    intro v1 v2 M H locs ls  hl hP hS hf
    unfold fM_leave_19 at hf
    refine lv_iconst (v := 0) hx hb d_M_leave_19 rfl ?_
    exact K20 v1 v2 0 M _ _ _  hl hP hS hf
  unfold fM_leave at hf
  refine lv_aload_n hx hb d_M_leave_0 rfl (lv_at hl 0 rfl) ?_
  refine lv_iload_n hx hb d_M_leave_1 rfl (lv_at hl 1 rfl) ?_
  obtain ⟨r6, hr6, hf⟩ := xbd_some hf
  refine xc_rs (rest := [.ref (ad 0)]) F hT hK hP (tM_isCandidate l G c3 ad M a1 r6 hr6) wl_M_107 ws_M_isCandidate wn_M wc_M_isCandidate ck_M_isCandidate ⟨rfl, rfl⟩ ⟨by decide, by decide⟩ ⟨Nat.le_refl _, Nat.le_refl _⟩ hl.1 rfl (Nat.le_of_ble_eq_true rfl) d_M_leave_2 ?_
  refine lv_if_eq (tgt := 19) hx hb d_M_leave_5 rfl (fun hc => ?_) (fun hc => ?_)
  · have hf := ite_t hc hf
    exact K19 a1 a2 M _ _ _  hl hP hS hf
  · have hf := ite_f hc hf
    refine lv_iload_n hx hb d_M_leave_8 rfl (lv_at hl 2 rfl) ?_
    obtain ⟨r7, hr7, hf⟩ := xbd_some hf
    refine xc_rs (rest := [.ref (ad 0)]) F hT hK hP (tM_isSession l G c3 ad M a2 r7 hr7) wl_M_104 ws_M_isSession wn_M wc_M_isSession ck_M_isSession ⟨rfl, rfl⟩ ⟨by decide, by decide⟩ ⟨Nat.le_refl _, Nat.le_refl _⟩ hl.1 rfl (Nat.le_of_ble_eq_true rfl) d_M_leave_9 ?_
    refine lv_if_eq (tgt := 19) hx hb d_M_leave_12 rfl (fun hc => ?_) (fun hc => ?_)
    · have hf := ite_t hc hf
      exact K19 a1 a2 M _ _ _  hl hP hS hf
    · have hf := ite_f hc hf
      refine lv_iconst (v := 1) hx hb d_M_leave_15 rfl ?_
      refine lv_goto (tgt := 20) hx hb d_M_leave_16 rfl ?_
      exact K20 a1 a2 1 M _ _ _  hl hP hS hf
noncomputable def fM_where_40 (s40_0 : Int32) (M : Mem) : Option (Int32 × Mem) := some (s40_0, M)
noncomputable def fM_where_20 (v1 v2 s20_0 : Int32) (M : Mem) : Option (Int32 × Mem) := xbd (fM_goes s20_0 1 M) (fun r1 => if r1.1 = 0 then (fM_where_40 0 r1.2) else (xbd (fM_place v1 v2 r1.2) (fun r2 => xbd (fM_told r2) (fun r3 => fM_where_40 r3 r1.2))))
noncomputable def fM_where_19 (v1 v2 : Int32) (M : Mem) : Option (Int32 × Mem) := fM_where_20 v1 v2 0 M
noncomputable def fM_where (a1 a2 : Int32) (M : Mem) : Option (Int32 × Mem) := xbd (fM_isCandidate a1) (fun r4 => if r4 = 0 then (fM_where_19 a1 a2 M) else (xbd (fM_isSession a2) (fun r5 => if r5 = 0 then (fM_where_19 a1 a2 M) else (fM_where_20 a1 a2 1 M))))
set_option maxHeartbeats 4000000 in
set_option maxRecDepth 100000 in
theorem tM_where (l : Launch) (G : va_G) (c3 : ClassId × ClassId × ClassId) (ad : Nat → Nat) (hd : adI SM ad) (M : Mem) (a1 a2 : Int32) (o1 : Int32) (o2 : Mem) (hf : fM_where a1 a2 M = some (o1, o2)) : WMet l yM_where cM_where 3 (some .int) (rm0_ 1 23) G kl SM c3 ad M [.ref (ad 0), .int a1, .int a2] (some (.int o1)) o2 := by
  generalize hout : (o1, o2) = out at hf
  obtain rfl : out.1 = o1 := by rw [← hout]
  obtain rfl : out.2 = o2 := by rw [← hout]
  clear hout
  refine WMet.of (by decide +kernel) (Nat.le_of_ble_eq_true rfl) (fun p e s m args below meth c ls F hT hK hP hr hlk hl hS => ?_)
  have hx := F.1
  have hb := F.2.1
  have F : CallFix p m c cM_where 3 s args gw RM := F
  have hown := F.2.2.2.1
  have hl : lv_has ls 3 [(0, .ref (ad 0)), (1, .int a1), (2, .int a2)] := hl
  revert hP hS
  suffices hall : ∀ (H : Heap) (locs : List Loc), va_P G kl (wd SM c3 ad M) H → va_S (adA SM ad) s.heap H locs → W p l e (rm0_ 1 23) s m args below meth c H locs 0 0 (MQ below (QW G kl SM c3 ad (some (.int out.1)) out.2) args s 0 0 (adA SM ad)) (F0 m 0 ls []) from hall s.heap []
  intro H locs hP hS
  have K40 : ∀ (s40_0 : Int32) (M : Mem) (H : Heap) (locs : List Loc) (ls : Array Slot), lv_has ls 3 [] → va_P G kl (wd SM c3 ad M) H → va_S (adA SM ad) s.heap H locs → fM_where_40 s40_0 M = some out → W p l e (rm0_ 1 23) s m args below meth c H locs 0 0 (MQ below (QW G kl SM c3 ad (some (.int out.1)) out.2) args s 0 0 (adA SM ad)) (F0 m 40 ls [.int s40_0]) := by
    intro s40_0 M H locs ls  hl hP hS hf
    unfold fM_where_40 at hf
    exact xw_iret hx hb hr hlk hP hS (Option.some.inj hf) d_M_where_40
  have K20 : ∀ (v1 v2 s20_0 : Int32) (M : Mem) (H : Heap) (locs : List Loc) (ls : Array Slot), lv_has ls 3 [(0, .ref (ad 0)), (1, .int v1), (2, .int v2)] → va_P G kl (wd SM c3 ad M) H → va_S (adA SM ad) s.heap H locs → fM_where_20 v1 v2 s20_0 M = some out → W p l e (rm0_ 1 23) s m args below meth c H locs 0 0 (MQ below (QW G kl SM c3 ad (some (.int out.1)) out.2) args s 0 0 (adA SM ad)) (F0 m 20 ls [.int s20_0, .ref (ad 0)]) := by
    intro v1 v2 s20_0 M H locs ls  hl hP hS hf
    unfold fM_where_20 at hf
    refine lv_iconst (v := 1) hx hb d_M_where_20 rfl ?_
    obtain ⟨r1, hr1, hf⟩ := xbd_some hf
    refine xc_wv (rest := []) F hT hK hP hS (fun _ h => h) (tM_goes l G c3 ad hd M s20_0 1 r1.1 r1.2 hr1) sM_0 rfl wl_M_97 wi_M_goes we_M_goes wn_M wc_M_goes ck_M_goes ⟨rfl, rfl⟩ ⟨by decide, by decide⟩ ⟨Nat.le_refl _, Nat.le_refl _⟩ hl.1 rfl (Nat.le_of_ble_eq_true rfl) d_M_where_21 (fun H locs hP hS _ => ?_)
    refine lv_if_eq (tgt := 39) hx hb d_M_where_24 rfl (fun hc => ?_) (fun hc => ?_)
    · have hf := ite_t hc hf
      refine lv_iconst (v := 0) hx hb d_M_where_39 rfl ?_
      exact K40 0 r1.2 _ _ _  (lv_sub hl [] rfl) hP hS hf
    · have hf := ite_f hc hf
      refine lv_aload_n hx hb d_M_where_27 rfl (lv_at hl 0 rfl) ?_
      refine lv_iload_n hx hb d_M_where_28 rfl (lv_at hl 1 rfl) ?_
      refine lv_iload_n hx hb d_M_where_29 rfl (lv_at hl 2 rfl) ?_
      obtain ⟨r2, hr2, hf⟩ := xbd_some hf
      refine xc_rv (rest := []) F hT hK hP (tM_place l G c3 ad r1.2 v1 v2 r2 hr2) sM_0 rfl wl_M_148 wi_M_place we_M_place wn_M wc_M_place ck_M_place ⟨rfl, rfl⟩ ⟨by decide, by decide⟩ ⟨Nat.le_refl _, Nat.le_refl _⟩ hl.1 rfl (Nat.le_of_ble_eq_true rfl) d_M_where_30 ?_
      obtain ⟨r3, hr3, hf⟩ := xbd_some hf
      refine xc_rs (rest := []) F hT hK hP (tM_told l G c3 ad r1.2 r2 r3 hr3) wl_M_155 ws_M_told wn_M wc_M_told ck_M_told ⟨rfl, rfl⟩ ⟨by decide, by decide⟩ ⟨Nat.le_refl _, Nat.le_refl _⟩ hl.1 rfl (Nat.le_of_ble_eq_true rfl) d_M_where_33 ?_
      refine lv_goto (tgt := 40) hx hb d_M_where_36 rfl ?_
      exact K40 r3 r1.2 _ _ _  (lv_sub hl [] rfl) hP hS hf
  have K19 : ∀ (v1 v2 : Int32) (M : Mem) (H : Heap) (locs : List Loc) (ls : Array Slot), lv_has ls 3 [(0, .ref (ad 0)), (1, .int v1), (2, .int v2)] → va_P G kl (wd SM c3 ad M) H → va_S (adA SM ad) s.heap H locs → fM_where_19 v1 v2 M = some out → W p l e (rm0_ 1 23) s m args below meth c H locs 0 0 (MQ below (QW G kl SM c3 ad (some (.int out.1)) out.2) args s 0 0 (adA SM ad)) (F0 m 19 ls [.ref (ad 0)]) := by
    intro v1 v2 M H locs ls  hl hP hS hf
    unfold fM_where_19 at hf
    refine lv_iconst (v := 0) hx hb d_M_where_19 rfl ?_
    exact K20 v1 v2 0 M _ _ _  hl hP hS hf
  unfold fM_where at hf
  refine lv_aload_n hx hb d_M_where_0 rfl (lv_at hl 0 rfl) ?_
  refine lv_iload_n hx hb d_M_where_1 rfl (lv_at hl 1 rfl) ?_
  obtain ⟨r4, hr4, hf⟩ := xbd_some hf
  refine xc_rs (rest := [.ref (ad 0)]) F hT hK hP (tM_isCandidate l G c3 ad M a1 r4 hr4) wl_M_107 ws_M_isCandidate wn_M wc_M_isCandidate ck_M_isCandidate ⟨rfl, rfl⟩ ⟨by decide, by decide⟩ ⟨Nat.le_refl _, Nat.le_refl _⟩ hl.1 rfl (Nat.le_of_ble_eq_true rfl) d_M_where_2 ?_
  refine lv_if_eq (tgt := 19) hx hb d_M_where_5 rfl (fun hc => ?_) (fun hc => ?_)
  · have hf := ite_t hc hf
    exact K19 a1 a2 M _ _ _  hl hP hS hf
  · have hf := ite_f hc hf
    refine lv_iload_n hx hb d_M_where_8 rfl (lv_at hl 2 rfl) ?_
    obtain ⟨r5, hr5, hf⟩ := xbd_some hf
    refine xc_rs (rest := [.ref (ad 0)]) F hT hK hP (tM_isSession l G c3 ad M a2 r5 hr5) wl_M_104 ws_M_isSession wn_M wc_M_isSession ck_M_isSession ⟨rfl, rfl⟩ ⟨by decide, by decide⟩ ⟨Nat.le_refl _, Nat.le_refl _⟩ hl.1 rfl (Nat.le_of_ble_eq_true rfl) d_M_where_9 ?_
    refine lv_if_eq (tgt := 19) hx hb d_M_where_12 rfl (fun hc => ?_) (fun hc => ?_)
    · have hf := ite_t hc hf
      exact K19 a1 a2 M _ _ _  hl hP hS hf
    · have hf := ite_f hc hf
      refine lv_iconst (v := 1) hx hb d_M_where_15 rfl ?_
      refine lv_goto (tgt := 20) hx hb d_M_where_16 rfl ?_
      exact K20 a1 a2 1 M _ _ _  hl hP hS hf
noncomputable def fM_who_24 (v1 v2 v3 v4 s24_0 : Int32) (M : Mem) : Option (Int32 × Mem) := xbd (fM_goes s24_0 1 M) (fun r1 => if r1.1 = 0 then (some (0, r1.2)) else (xlt (((((144 * v1) + (36 * v2)) + (6 * v3)) + v4)) (fun x2 => xgd (vp_in x2 864) (some (((r1.2 17 x2.toNatClampNeg) - 1), r1.2)))))
noncomputable def fM_who_23 (v1 v2 v3 v4 : Int32) (M : Mem) : Option (Int32 × Mem) := fM_who_24 v1 v2 v3 v4 0 M
noncomputable def fM_who (a1 a2 a3 a4 : Int32) (M : Mem) : Option (Int32 × Mem) := xbd (fM_isSession a1) (fun r4 => if r4 = 0 then (fM_who_23 a1 a2 a3 a4 M) else (xbd (fM_isSeat a2 a3 a4 M) (fun r5 => if r5 = 0 then (fM_who_23 a1 a2 a3 a4 M) else (fM_who_24 a1 a2 a3 a4 1 M))))
set_option maxHeartbeats 4000000 in
set_option maxRecDepth 100000 in
theorem tM_who (l : Launch) (G : va_G) (c3 : ClassId × ClassId × ClassId) (ad : Nat → Nat) (hd : adI SM ad) (M : Mem) (a1 a2 a3 a4 : Int32) (o1 : Int32) (o2 : Mem) (hf : fM_who a1 a2 a3 a4 M = some (o1, o2)) : WMet l yM_who cM_who 5 (some .int) (rm0_ 2 43) G kl SM c3 ad M [.ref (ad 0), .int a1, .int a2, .int a3, .int a4] (some (.int o1)) o2 := by
  generalize hout : (o1, o2) = out at hf
  obtain rfl : out.1 = o1 := by rw [← hout]
  obtain rfl : out.2 = o2 := by rw [← hout]
  clear hout
  refine WMet.of (by decide +kernel) (Nat.le_of_ble_eq_true rfl) (fun p e s m args below meth c ls F hT hK hP hr hlk hl hS => ?_)
  have hx := F.1
  have hb := F.2.1
  have F : CallFix p m c cM_who 5 s args gw RM := F
  have hown := F.2.2.2.1
  have hl : lv_has ls 5 [(0, .ref (ad 0)), (1, .int a1), (2, .int a2), (3, .int a3), (4, .int a4)] := hl
  revert hP hS
  suffices hall : ∀ (H : Heap) (locs : List Loc), va_P G kl (wd SM c3 ad M) H → va_S (adA SM ad) s.heap H locs → W p l e (rm0_ 2 43) s m args below meth c H locs 0 0 (MQ below (QW G kl SM c3 ad (some (.int out.1)) out.2) args s 0 0 (adA SM ad)) (F0 m 0 ls []) from hall s.heap []
  intro H locs hP hS
  have K24 : ∀ (v1 v2 v3 v4 s24_0 : Int32) (M : Mem) (H : Heap) (locs : List Loc) (ls : Array Slot), lv_has ls 5 [(0, .ref (ad 0)), (1, .int v1), (2, .int v2), (3, .int v3), (4, .int v4)] → va_P G kl (wd SM c3 ad M) H → va_S (adA SM ad) s.heap H locs → fM_who_24 v1 v2 v3 v4 s24_0 M = some out → W p l e (rm0_ 2 43) s m args below meth c H locs 0 0 (MQ below (QW G kl SM c3 ad (some (.int out.1)) out.2) args s 0 0 (adA SM ad)) (F0 m 24 ls [.int s24_0, .ref (ad 0)]) := by
    intro v1 v2 v3 v4 s24_0 M H locs ls  hl hP hS hf
    unfold fM_who_24 at hf
    refine lv_iconst (v := 1) hx hb d_M_who_24 rfl ?_
    obtain ⟨r1, hr1, hf⟩ := xbd_some hf
    refine xc_wv (rest := []) F hT hK hP hS (fun _ h => h) (tM_goes l G c3 ad hd M s24_0 1 r1.1 r1.2 hr1) sM_0 rfl wl_M_97 wi_M_goes we_M_goes wn_M wc_M_goes ck_M_goes ⟨rfl, rfl⟩ ⟨by decide, by decide⟩ ⟨Nat.le_refl _, Nat.le_refl _⟩ hl.1 rfl (Nat.le_of_ble_eq_true rfl) d_M_who_25 (fun H locs hP hS _ => ?_)
    refine lv_if_ne (tgt := 33) hx hb d_M_who_28 rfl (fun hc => ?_) (fun hc => ?_)
    · have hf := ite_f hc hf
      refine lv_aload_n hx hb d_M_who_33 rfl (lv_at hl 0 rfl) ?_
      refine xr_getr hx hb hT hown hK hP sM_0 rfl inM 18 (by decide) wf_M_59 rfl d_M_who_34 ?_
      refine lv_sipush (v := 144) hx hb d_M_who_37 rfl ?_
      refine lv_iload_n hx hb d_M_who_40 rfl (lv_at hl 1 rfl) ?_
      refine lv_imul hx hb d_M_who_41 ?_
      refine lv_bipush (v := 36) hx hb d_M_who_42 rfl ?_
      refine lv_iload_n hx hb d_M_who_44 rfl (lv_at hl 2 rfl) ?_
      refine lv_imul hx hb d_M_who_45 ?_
      refine lv_iadd hx hb d_M_who_46 ?_
      refine lv_bipush (v := 6) hx hb d_M_who_47 rfl ?_
      refine lv_iload_n hx hb d_M_who_49 rfl (lv_at hl 3 rfl) ?_
      refine lv_imul hx hb d_M_who_50 ?_
      refine lv_iadd hx hb d_M_who_51 ?_
      refine lv_iload hx hb d_M_who_52 (lv_at hl 4 rfl) ?_
      refine lv_iadd hx hb d_M_who_54 ?_
      obtain ⟨x2, hx2, hf⟩ := xlt_some hf
      refine xr_name hx2 ?_
      obtain ⟨g3, hf⟩ := xgd_some hf
      refine xr_iald hx hb hK hP sM_17 g3 d_M_who_55 ?_
      refine lv_iconst (v := 1) hx hb d_M_who_56 rfl ?_
      refine lv_isub hx hb d_M_who_57 ?_
      exact xw_iret hx hb hr hlk hP hS (Option.some.inj hf) d_M_who_58
    · have hf := ite_t hc hf
      refine lv_iconst (v := 0) hx hb d_M_who_31 rfl ?_
      exact xw_iret hx hb hr hlk hP hS (Option.some.inj hf) d_M_who_32
  have K23 : ∀ (v1 v2 v3 v4 : Int32) (M : Mem) (H : Heap) (locs : List Loc) (ls : Array Slot), lv_has ls 5 [(0, .ref (ad 0)), (1, .int v1), (2, .int v2), (3, .int v3), (4, .int v4)] → va_P G kl (wd SM c3 ad M) H → va_S (adA SM ad) s.heap H locs → fM_who_23 v1 v2 v3 v4 M = some out → W p l e (rm0_ 2 43) s m args below meth c H locs 0 0 (MQ below (QW G kl SM c3 ad (some (.int out.1)) out.2) args s 0 0 (adA SM ad)) (F0 m 23 ls [.ref (ad 0)]) := by
    intro v1 v2 v3 v4 M H locs ls  hl hP hS hf
    unfold fM_who_23 at hf
    refine lv_iconst (v := 0) hx hb d_M_who_23 rfl ?_
    exact K24 v1 v2 v3 v4 0 M _ _ _  hl hP hS hf
  unfold fM_who at hf
  refine lv_aload_n hx hb d_M_who_0 rfl (lv_at hl 0 rfl) ?_
  refine lv_iload_n hx hb d_M_who_1 rfl (lv_at hl 1 rfl) ?_
  obtain ⟨r4, hr4, hf⟩ := xbd_some hf
  refine xc_rs (rest := [.ref (ad 0)]) F hT hK hP (tM_isSession l G c3 ad M a1 r4 hr4) wl_M_104 ws_M_isSession wn_M wc_M_isSession ck_M_isSession ⟨rfl, rfl⟩ ⟨by decide, by decide⟩ ⟨Nat.le_refl _, Nat.le_refl _⟩ hl.1 rfl (Nat.le_of_ble_eq_true rfl) d_M_who_2 ?_
  refine lv_if_eq (tgt := 23) hx hb d_M_who_5 rfl (fun hc => ?_) (fun hc => ?_)
  · have hf := ite_t hc hf
    exact K23 a1 a2 a3 a4 M _ _ _  hl hP hS hf
  · have hf := ite_f hc hf
    refine lv_aload_n hx hb d_M_who_8 rfl (lv_at hl 0 rfl) ?_
    refine lv_iload_n hx hb d_M_who_9 rfl (lv_at hl 2 rfl) ?_
    refine lv_iload_n hx hb d_M_who_10 rfl (lv_at hl 3 rfl) ?_
    refine lv_iload hx hb d_M_who_11 (lv_at hl 4 rfl) ?_
    obtain ⟨r5, hr5, hf⟩ := xbd_some hf
    refine xc_rv (rest := [.ref (ad 0)]) F hT hK hP (tM_isSeat l G c3 ad M a2 a3 a4 r5 hr5) sM_0 rfl wl_M_141 wi_M_isSeat we_M_isSeat wn_M wc_M_isSeat ck_M_isSeat ⟨rfl, rfl⟩ ⟨by decide, by decide⟩ ⟨Nat.le_refl _, Nat.le_refl _⟩ hl.1 rfl (Nat.le_of_ble_eq_true rfl) d_M_who_13 ?_
    refine lv_if_eq (tgt := 23) hx hb d_M_who_16 rfl (fun hc => ?_) (fun hc => ?_)
    · have hf := ite_t hc hf
      exact K23 a1 a2 a3 a4 M _ _ _  hl hP hS hf
    · have hf := ite_f hc hf
      refine lv_iconst (v := 1) hx hb d_M_who_19 rfl ?_
      refine lv_goto (tgt := 24) hx hb d_M_who_20 rfl ?_
      exact K24 a1 a2 a3 a4 1 M _ _ _  hl hP hS hf
noncomputable def fM_isInvigilator_15 (s15_0 : Int32) : Option (Int32) := xgd (s15_0 = 0 ∨ s15_0 = 1) (some s15_0)
noncomputable def fM_isInvigilator_14 : Option (Int32) := fM_isInvigilator_15 0
noncomputable def fM_isInvigilator (a0 : Int32) : Option (Int32) := if a0 < 0 then (fM_isInvigilator_14) else (if 10 ≤ a0 then (fM_isInvigilator_14) else (fM_isInvigilator_15 1))
set_option maxHeartbeats 4000000 in
set_option maxRecDepth 100000 in
theorem tM_isInvigilator (l : Launch) (G : va_G) (c3 : ClassId × ClassId × ClassId) (ad : Nat → Nat) (M : Mem) (a0 : Int32) (out : Int32) (hf : fM_isInvigilator a0 = some out) : RMet l yM_isInvigilator cM_isInvigilator 1 (some .boolean) (rm0_ 0 0) G kl SM c3 ad M [.int a0] out := by
  refine RMet.of (by decide +kernel) (Nat.le_of_ble_eq_true rfl) (fun p e s m args below meth c ls F hT hK hP hr hlk hl => ?_)
  have hx := F.1
  have hb := F.2.1
  have F : CallFix p m c cM_isInvigilator 1 s args gw RM := F
  have hown := F.2.2.2.1
  have hl : lv_has ls 1 [(0, .int a0)] := hl
  have K15 : ∀ (s15_0 : Int32) (ls : Array Slot), lv_has ls 1 [] → fM_isInvigilator_15 s15_0 = some out → W p l e (rm0_ 0 0) s m args below meth c s.heap [] 0 0 (MQ below (QcRead out) args s 0 0 (fun _ => False)) (F0 m 15 ls [.int s15_0]) := by
    intro s15_0 ls  hl hf
    unfold fM_isInvigilator_15 at hf
    obtain ⟨z1, hf⟩ := xgd_some hf
    exact xr_zret hx hb hr hlk z1 (Option.some.inj hf) d_M_isInvigilator_15
  have K14 : ∀ (ls : Array Slot), lv_has ls 1 [] → fM_isInvigilator_14 = some out → W p l e (rm0_ 0 0) s m args below meth c s.heap [] 0 0 (MQ below (QcRead out) args s 0 0 (fun _ => False)) (F0 m 14 ls []) := by
    intro  ls  hl hf
    unfold fM_isInvigilator_14 at hf
    refine lv_iconst (v := 0) hx hb d_M_isInvigilator_14 rfl ?_
    exact K15 0 _  hl hf
  unfold fM_isInvigilator at hf
  refine lv_iload_n hx hb d_M_isInvigilator_0 rfl (lv_at hl 0 rfl) ?_
  refine lv_if_lt (tgt := 14) hx hb d_M_isInvigilator_1 rfl (fun hc => ?_) (fun hc => ?_)
  · have hf := ite_t hc hf
    exact K14  _  (lv_sub hl [] rfl) hf
  · have hf := ite_f hc hf
    refine lv_iload_n hx hb d_M_isInvigilator_4 rfl (lv_at hl 0 rfl) ?_
    refine lv_bipush (v := 10) hx hb d_M_isInvigilator_5 rfl ?_
    refine lv_icmp_ge (tgt := 14) hx hb d_M_isInvigilator_7 rfl (fun hc => ?_) (fun hc => ?_)
    · have hf := ite_t hc hf
      exact K14  _  (lv_sub hl [] rfl) hf
    · have hf := ite_f hc hf
      refine lv_iconst (v := 1) hx hb d_M_isInvigilator_10 rfl ?_
      refine lv_goto (tgt := 15) hx hb d_M_isInvigilator_11 rfl ?_
      exact K15 1 _  (lv_sub hl [] rfl) hf
noncomputable def fM_most (a1 a2 : Int32) (M : Mem) : Option (Int32 × Mem) := xbd (fM_isInvigilator a1) (fun r1 => xbd (fM_within a2 0 6) (fun r2 => xbd (fM_goes r1 r2 M) (fun r3 => if r3.1 = 0 then (some (0, r3.2)) else (xgd (vp_in a1 10) (xlt ((r3.2 19 a1.toNatClampNeg)) (fun x5 => xgd (vp_in a1 10) (xlt (up2 r3.2 19 a1.toNatClampNeg a2) (fun M7 => some (x5, M7)))))))))
set_option maxHeartbeats 4000000 in
set_option maxRecDepth 100000 in
theorem tM_most (l : Launch) (G : va_G) (c3 : ClassId × ClassId × ClassId) (ad : Nat → Nat) (hd : adI SM ad) (M : Mem) (a1 a2 : Int32) (o1 : Int32) (o2 : Mem) (hf : fM_most a1 a2 M = some (o1, o2)) : WMet l yM_most cM_most 4 (some .int) (rm0_ 1 22) G kl SM c3 ad M [.ref (ad 0), .int a1, .int a2] (some (.int o1)) o2 := by
  generalize hout : (o1, o2) = out at hf
  obtain rfl : out.1 = o1 := by rw [← hout]
  obtain rfl : out.2 = o2 := by rw [← hout]
  clear hout
  refine WMet.of (by decide +kernel) (Nat.le_of_ble_eq_true rfl) (fun p e s m args below meth c ls F hT hK hP hr hlk hl hS => ?_)
  have hx := F.1
  have hb := F.2.1
  have F : CallFix p m c cM_most 4 s args gw RM := F
  have hown := F.2.2.2.1
  have hl : lv_has ls 4 [(0, .ref (ad 0)), (1, .int a1), (2, .int a2)] := hl
  revert hP hS
  suffices hall : ∀ (H : Heap) (locs : List Loc), va_P G kl (wd SM c3 ad M) H → va_S (adA SM ad) s.heap H locs → W p l e (rm0_ 1 22) s m args below meth c H locs 0 0 (MQ below (QW G kl SM c3 ad (some (.int out.1)) out.2) args s 0 0 (adA SM ad)) (F0 m 0 ls []) from hall s.heap []
  intro H locs hP hS
  unfold fM_most at hf
  refine lv_aload_n hx hb d_M_most_0 rfl (lv_at hl 0 rfl) ?_
  refine lv_iload_n hx hb d_M_most_1 rfl (lv_at hl 1 rfl) ?_
  obtain ⟨r1, hr1, hf⟩ := xbd_some hf
  refine xc_rs (rest := [.ref (ad 0)]) F hT hK hP (tM_isInvigilator l G c3 ad M a1 r1 hr1) wl_M_158 ws_M_isInvigilator wn_M wc_M_isInvigilator ck_M_isInvigilator ⟨rfl, rfl⟩ ⟨by decide, by decide⟩ ⟨Nat.le_refl _, Nat.le_refl _⟩ hl.1 rfl (Nat.le_of_ble_eq_true rfl) d_M_most_2 ?_
  refine lv_iload_n hx hb d_M_most_5 rfl (lv_at hl 2 rfl) ?_
  refine lv_iconst (v := 0) hx hb d_M_most_6 rfl ?_
  refine lv_bipush (v := 6) hx hb d_M_most_7 rfl ?_
  obtain ⟨r2, hr2, hf⟩ := xbd_some hf
  refine xc_rs (rest := [.int r1, .ref (ad 0)]) F hT hK hP (tM_within l G c3 ad M a2 0 6 r2 hr2) wl_M_93 ws_M_within wn_M wc_M_within ck_M_within ⟨rfl, rfl⟩ ⟨by decide, by decide⟩ ⟨Nat.le_refl _, Nat.le_refl _⟩ hl.1 rfl (Nat.le_of_ble_eq_true rfl) d_M_most_9 ?_
  obtain ⟨r3, hr3, hf⟩ := xbd_some hf
  refine xc_wv (rest := []) F hT hK hP hS (fun _ h => h) (tM_goes l G c3 ad hd M r1 r2 r3.1 r3.2 hr3) sM_0 rfl wl_M_97 wi_M_goes we_M_goes wn_M wc_M_goes ck_M_goes ⟨rfl, rfl⟩ ⟨by decide, by decide⟩ ⟨Nat.le_refl _, Nat.le_refl _⟩ hl.1 rfl (Nat.le_of_ble_eq_true rfl) d_M_most_12 (fun H locs hP hS _ => ?_)
  refine lv_if_ne (tgt := 20) hx hb d_M_most_15 rfl (fun hc => ?_) (fun hc => ?_)
  · have hf := ite_f hc hf
    refine lv_aload_n hx hb d_M_most_20 rfl (lv_at hl 0 rfl) ?_
    refine xr_getr hx hb hT hown hK hP sM_0 rfl inM 20 (by decide) wf_M_65 rfl d_M_most_21 ?_
    refine lv_iload_n hx hb d_M_most_24 rfl (lv_at hl 1 rfl) ?_
    obtain ⟨g4, hf⟩ := xgd_some hf
    refine xr_iald hx hb hK hP sM_19 g4 d_M_most_25 ?_
    obtain ⟨x5, hx5, hf⟩ := xlt_some hf
    refine xr_name hx5 ?_
    refine lv_istore_n (lv' := [(3, .int x5), (0, .ref (ad 0)), (1, .int a1), (2, .int a2)]) hx hb d_M_most_26 rfl hl (by decide) rfl (fun ls hl => ?_)
    refine lv_aload_n hx hb d_M_most_27 rfl (lv_at hl 1 rfl) ?_
    refine xr_getr hx hb hT hown hK hP sM_0 rfl inM 20 (by decide) wf_M_65 rfl d_M_most_28 ?_
    refine lv_iload_n hx hb d_M_most_31 rfl (lv_at hl 2 rfl) ?_
    refine lv_iload_n hx hb d_M_most_32 rfl (lv_at hl 3 rfl) ?_
    obtain ⟨g6, hf⟩ := xgd_some hf
    obtain ⟨M7, hM7, hf⟩ := xlt_some hf
    refine xr_iast hx hb hd hK hP hS sM_19 g6 d_M_most_33 (fun H locs hP hS => ?_)
    rw [hM7] at hP
    refine lv_iload_n hx hb d_M_most_34 rfl (lv_at hl 0 rfl) ?_
    exact xw_iret hx hb hr hlk hP hS (Option.some.inj hf) d_M_most_35
  · have hf := ite_t hc hf
    refine lv_iconst (v := 0) hx hb d_M_most_18 rfl ?_
    exact xw_iret hx hb hr hlk hP hS (Option.some.inj hf) d_M_most_19
noncomputable def fM_own_49 (v1 v2 v3 s49_0 : Int32) (M : Mem) : Option (Int32 × Mem) := xgd (vp_in ((9 * v1) + v2) 90) (xlt (up2 M 20 (((9 * v1) + v2).toNatClampNeg) (vp_nar .boolean v3)) (fun M2 => xgd (s49_0 = 0 ∨ s49_0 = 1) (some (s49_0, M2))))
noncomputable def fM_own_20 (v1 v2 v3 s20_0 : Int32) (M : Mem) : Option (Int32 × Mem) := xbd (fM_goes s20_0 1 M) (fun r4 => if r4.1 = 0 then (xgd ((0 : Int32) = 0 ∨ (0 : Int32) = 1) (some (0, r4.2))) else (xlt (((9 * v1) + v2)) (fun x5 => xgd (vp_in x5 90) (if (r4.2 20 x5.toNatClampNeg) = v3 then (fM_own_49 v1 v2 v3 0 r4.2) else (fM_own_49 v1 v2 v3 1 r4.2)))))
noncomputable def fM_own_19 (v1 v2 v3 : Int32) (M : Mem) : Option (Int32 × Mem) := fM_own_20 v1 v2 v3 0 M
noncomputable def fM_own (a1 a2 a3 : Int32) (M : Mem) : Option (Int32 × Mem) := xbd (fM_isInvigilator a1) (fun r8 => if r8 = 0 then (fM_own_19 a1 a2 a3 M) else (xbd (fM_isPaper a2) (fun r9 => if r9 = 0 then (fM_own_19 a1 a2 a3 M) else (fM_own_20 a1 a2 a3 1 M))))
set_option maxHeartbeats 4000000 in
set_option maxRecDepth 100000 in
theorem tM_own (l : Launch) (G : va_G) (c3 : ClassId × ClassId × ClassId) (ad : Nat → Nat) (hd : adI SM ad) (M : Mem) (a1 a2 a3 : Int32) (o1 : Int32) (o2 : Mem) (hf : fM_own a1 a2 a3 M = some (o1, o2)) : WMet l yM_own cM_own 5 (some .boolean) (rm0_ 1 22) G kl SM c3 ad M [.ref (ad 0), .int a1, .int a2, .int a3] (some (.int o1)) o2 := by
  generalize hout : (o1, o2) = out at hf
  obtain rfl : out.1 = o1 := by rw [← hout]
  obtain rfl : out.2 = o2 := by rw [← hout]
  clear hout
  refine WMet.of (by decide +kernel) (Nat.le_of_ble_eq_true rfl) (fun p e s m args below meth c ls F hT hK hP hr hlk hl hS => ?_)
  have hx := F.1
  have hb := F.2.1
  have F : CallFix p m c cM_own 5 s args gw RM := F
  have hown := F.2.2.2.1
  have hl : lv_has ls 5 [(0, .ref (ad 0)), (1, .int a1), (2, .int a2), (3, .int a3)] := hl
  revert hP hS
  suffices hall : ∀ (H : Heap) (locs : List Loc), va_P G kl (wd SM c3 ad M) H → va_S (adA SM ad) s.heap H locs → W p l e (rm0_ 1 22) s m args below meth c H locs 0 0 (MQ below (QW G kl SM c3 ad (some (.int out.1)) out.2) args s 0 0 (adA SM ad)) (F0 m 0 ls []) from hall s.heap []
  intro H locs hP hS
  have K49 : ∀ (v1 v2 v3 s49_0 : Int32) (M : Mem) (H : Heap) (locs : List Loc) (ls : Array Slot), lv_has ls 5 [(0, .ref (ad 0)), (1, .int v1), (2, .int v2), (3, .int v3)] → va_P G kl (wd SM c3 ad M) H → va_S (adA SM ad) s.heap H locs → fM_own_49 v1 v2 v3 s49_0 M = some out → W p l e (rm0_ 1 22) s m args below meth c H locs 0 0 (MQ below (QW G kl SM c3 ad (some (.int out.1)) out.2) args s 0 0 (adA SM ad)) (F0 m 49 ls [.int s49_0]) := by
    intro v1 v2 v3 s49_0 M H locs ls  hl hP hS hf
    unfold fM_own_49 at hf
    refine lv_istore (lv' := [(4, .int s49_0), (0, .ref (ad 0)), (1, .int v1), (2, .int v2), (3, .int v3)]) hx hb d_M_own_49 hl (by decide) rfl (fun ls hl => ?_)
    refine lv_aload_n hx hb d_M_own_51 rfl (lv_at hl 1 rfl) ?_
    refine xr_getr hx hb hT hown hK hP sM_0 rfl inM 21 (by decide) wf_M_68 rfl d_M_own_52 ?_
    refine lv_bipush (v := 9) hx hb d_M_own_55 rfl ?_
    refine lv_iload_n hx hb d_M_own_57 rfl (lv_at hl 2 rfl) ?_
    refine lv_imul hx hb d_M_own_58 ?_
    refine lv_iload_n hx hb d_M_own_59 rfl (lv_at hl 3 rfl) ?_
    refine lv_iadd hx hb d_M_own_60 ?_
    refine lv_iload_n hx hb d_M_own_61 rfl (lv_at hl 4 rfl) ?_
    obtain ⟨g1, hf⟩ := xgd_some hf
    obtain ⟨M2, hM2, hf⟩ := xlt_some hf
    refine xr_zast hx hb hd hK hP hS sM_20 g1 d_M_own_62 (fun H locs hP hS => ?_)
    rw [hM2] at hP
    refine lv_iload hx hb d_M_own_63 (lv_at hl 0 rfl) ?_
    obtain ⟨z3, hf⟩ := xgd_some hf
    exact xw_zret hx hb hr hlk hP hS z3 (Option.some.inj hf) d_M_own_65
  have K20 : ∀ (v1 v2 v3 s20_0 : Int32) (M : Mem) (H : Heap) (locs : List Loc) (ls : Array Slot), lv_has ls 5 [(0, .ref (ad 0)), (1, .int v1), (2, .int v2), (3, .int v3)] → va_P G kl (wd SM c3 ad M) H → va_S (adA SM ad) s.heap H locs → fM_own_20 v1 v2 v3 s20_0 M = some out → W p l e (rm0_ 1 22) s m args below meth c H locs 0 0 (MQ below (QW G kl SM c3 ad (some (.int out.1)) out.2) args s 0 0 (adA SM ad)) (F0 m 20 ls [.int s20_0, .ref (ad 0)]) := by
    intro v1 v2 v3 s20_0 M H locs ls  hl hP hS hf
    unfold fM_own_20 at hf
    refine lv_iconst (v := 1) hx hb d_M_own_20 rfl ?_
    obtain ⟨r4, hr4, hf⟩ := xbd_some hf
    refine xc_wv (rest := []) F hT hK hP hS (fun _ h => h) (tM_goes l G c3 ad hd M s20_0 1 r4.1 r4.2 hr4) sM_0 rfl wl_M_97 wi_M_goes we_M_goes wn_M wc_M_goes ck_M_goes ⟨rfl, rfl⟩ ⟨by decide, by decide⟩ ⟨Nat.le_refl _, Nat.le_refl _⟩ hl.1 rfl (Nat.le_of_ble_eq_true rfl) d_M_own_21 (fun H locs hP hS _ => ?_)
    refine lv_if_ne (tgt := 29) hx hb d_M_own_24 rfl (fun hc => ?_) (fun hc => ?_)
    · have hf := ite_f hc hf
      refine lv_aload_n hx hb d_M_own_29 rfl (lv_at hl 0 rfl) ?_
      refine xr_getr hx hb hT hown hK hP sM_0 rfl inM 21 (by decide) wf_M_68 rfl d_M_own_30 ?_
      refine lv_bipush (v := 9) hx hb d_M_own_33 rfl ?_
      refine lv_iload_n hx hb d_M_own_35 rfl (lv_at hl 1 rfl) ?_
      refine lv_imul hx hb d_M_own_36 ?_
      refine lv_iload_n hx hb d_M_own_37 rfl (lv_at hl 2 rfl) ?_
      refine lv_iadd hx hb d_M_own_38 ?_
      obtain ⟨x5, hx5, hf⟩ := xlt_some hf
      refine xr_name hx5 ?_
      obtain ⟨g6, hf⟩ := xgd_some hf
      refine xr_zald hx hb hK hP sM_20 g6 d_M_own_39 ?_
      refine lv_iload_n hx hb d_M_own_40 rfl (lv_at hl 3 rfl) ?_
      refine lv_icmp_eq (tgt := 48) hx hb d_M_own_41 rfl (fun hc => ?_) (fun hc => ?_)
      · have hf := ite_t hc hf
        refine lv_iconst (v := 0) hx hb d_M_own_48 rfl ?_
        exact K49 v1 v2 v3 0 r4.2 _ _ _  hl hP hS hf
      · have hf := ite_f hc hf
        refine lv_iconst (v := 1) hx hb d_M_own_44 rfl ?_
        refine lv_goto (tgt := 49) hx hb d_M_own_45 rfl ?_
        exact K49 v1 v2 v3 1 r4.2 _ _ _  hl hP hS hf
    · have hf := ite_t hc hf
      refine lv_iconst (v := 0) hx hb d_M_own_27 rfl ?_
      obtain ⟨z7, hf⟩ := xgd_some hf
      exact xw_zret hx hb hr hlk hP hS z7 (Option.some.inj hf) d_M_own_28
  have K19 : ∀ (v1 v2 v3 : Int32) (M : Mem) (H : Heap) (locs : List Loc) (ls : Array Slot), lv_has ls 5 [(0, .ref (ad 0)), (1, .int v1), (2, .int v2), (3, .int v3)] → va_P G kl (wd SM c3 ad M) H → va_S (adA SM ad) s.heap H locs → fM_own_19 v1 v2 v3 M = some out → W p l e (rm0_ 1 22) s m args below meth c H locs 0 0 (MQ below (QW G kl SM c3 ad (some (.int out.1)) out.2) args s 0 0 (adA SM ad)) (F0 m 19 ls [.ref (ad 0)]) := by
    intro v1 v2 v3 M H locs ls  hl hP hS hf
    unfold fM_own_19 at hf
    refine lv_iconst (v := 0) hx hb d_M_own_19 rfl ?_
    exact K20 v1 v2 v3 0 M _ _ _  hl hP hS hf
  unfold fM_own at hf
  refine lv_aload_n hx hb d_M_own_0 rfl (lv_at hl 0 rfl) ?_
  refine lv_iload_n hx hb d_M_own_1 rfl (lv_at hl 1 rfl) ?_
  obtain ⟨r8, hr8, hf⟩ := xbd_some hf
  refine xc_rs (rest := [.ref (ad 0)]) F hT hK hP (tM_isInvigilator l G c3 ad M a1 r8 hr8) wl_M_158 ws_M_isInvigilator wn_M wc_M_isInvigilator ck_M_isInvigilator ⟨rfl, rfl⟩ ⟨by decide, by decide⟩ ⟨Nat.le_refl _, Nat.le_refl _⟩ hl.1 rfl (Nat.le_of_ble_eq_true rfl) d_M_own_2 ?_
  refine lv_if_eq (tgt := 19) hx hb d_M_own_5 rfl (fun hc => ?_) (fun hc => ?_)
  · have hf := ite_t hc hf
    exact K19 a1 a2 a3 M _ _ _  hl hP hS hf
  · have hf := ite_f hc hf
    refine lv_iload_n hx hb d_M_own_8 rfl (lv_at hl 2 rfl) ?_
    obtain ⟨r9, hr9, hf⟩ := xbd_some hf
    refine xc_rs (rest := [.ref (ad 0)]) F hT hK hP (tM_isPaper l G c3 ad M a2 r9 hr9) wl_M_89 ws_M_isPaper wn_M wc_M_isPaper ck_M_isPaper ⟨rfl, rfl⟩ ⟨by decide, by decide⟩ ⟨Nat.le_refl _, Nat.le_refl _⟩ hl.1 rfl (Nat.le_of_ble_eq_true rfl) d_M_own_9 ?_
    refine lv_if_eq (tgt := 19) hx hb d_M_own_12 rfl (fun hc => ?_) (fun hc => ?_)
    · have hf := ite_t hc hf
      exact K19 a1 a2 a3 M _ _ _  hl hP hS hf
    · have hf := ite_f hc hf
      refine lv_iconst (v := 1) hx hb d_M_own_15 rfl ?_
      refine lv_goto (tgt := 20) hx hb d_M_own_16 rfl ?_
      exact K20 a1 a2 a3 1 M _ _ _  hl hP hS hf
noncomputable def fM_sitting_50 (v3 : Int32) (M : Mem) : Option (Int32) := some v3
noncomputable def fM_sitting_43 (v1 v2 v4 s43_0 : Int32) (M : Mem) : Option ((Int32 × Int32) ⊕ (Int32 × Int32)) := xlt (v4 + 1) (fun x1 => some (.inr (s43_0, x1)))
noncomputable def gM_sitting_8 (v1 v2 : Int32) (M : Mem) (v3 v4 : Int32) : Option ((Int32 × Int32) ⊕ (Int32 × Int32)) := if ((36 * v2) + 36) ≤ v4 then (some (.inl (v3, v4))) else (xlt (((144 * v1) + v4)) (fun x2 => xgd (vp_in x2 864) (if (M 17 x2.toNatClampNeg) ≤ 0 then (fM_sitting_43 v1 v2 v4 v3 M) else (fM_sitting_43 v1 v2 v4 (v3 + 1) M))))
noncomputable def bM_sitting_8 (v1 v2 : Int32) (M : Mem) : Int32 × Int32 → Option ((Int32 × Int32) ⊕ (Int32 × Int32)) := fun st => gM_sitting_8 v1 v2 M st.1 st.2
noncomputable def fM_sitting (a1 a2 : Int32) (M : Mem) : Option (Int32) := xlt ((36 * a2)) (fun x4 => xbd (xlp (bM_sitting_8 a1 a2 M) (0, x4)) (fun e8 => fM_sitting_50 e8.1 M))
set_option maxHeartbeats 4000000 in
set_option maxRecDepth 100000 in
theorem tM_sitting (l : Launch) (G : va_G) (c3 : ClassId × ClassId × ClassId) (ad : Nat → Nat) (M : Mem) (a1 a2 : Int32) (out : Int32) (hf : fM_sitting a1 a2 M = some out) : RMet l yM_sitting cM_sitting 5 (some .int) (rm0_ 0 0) G kl SM c3 ad M [.ref (ad 0), .int a1, .int a2] out := by
  refine RMet.of (by decide +kernel) (Nat.le_of_ble_eq_true rfl) (fun p e s m args below meth c ls F hT hK hP hr hlk hl => ?_)
  have hx := F.1
  have hb := F.2.1
  have F : CallFix p m c cM_sitting 5 s args gw RM := F
  have hown := F.2.2.2.1
  have hl : lv_has ls 5 [(0, .ref (ad 0)), (1, .int a1), (2, .int a2)] := hl
  have K50 : ∀ (v3 : Int32) (ls : Array Slot), lv_has ls 5 [(3, .int v3)] → fM_sitting_50 v3 M = some out → W p l e (rm0_ 0 0) s m args below meth c s.heap [] 0 0 (MQ below (QcRead out) args s 0 0 (fun _ => False)) (F0 m 50 ls []) := by
    intro v3 ls  hl hf
    unfold fM_sitting_50 at hf
    refine lv_iload_n hx hb d_M_sitting_50 rfl (lv_at hl 0 rfl) ?_
    exact xr_iret hx hb hr hlk (Option.some.inj hf) d_M_sitting_51
  unfold fM_sitting at hf
  refine lv_iconst (v := 0) hx hb d_M_sitting_0 rfl ?_
  refine lv_istore_n (lv' := [(3, .int 0), (0, .ref (ad 0)), (1, .int a1), (2, .int a2)]) hx hb d_M_sitting_1 rfl hl (by decide) rfl (fun ls hl => ?_)
  refine lv_bipush (v := 36) hx hb d_M_sitting_2 rfl ?_
  refine lv_iload_n hx hb d_M_sitting_4 rfl (lv_at hl 3 rfl) ?_
  refine lv_imul hx hb d_M_sitting_5 ?_
  obtain ⟨x1, hx1, hf⟩ := xlt_some hf
  refine xr_name hx1 ?_
  refine lv_istore (lv' := [(4, .int x1), (3, .int 0), (0, .ref (ad 0)), (1, .int a1), (2, .int a2)]) hx hb d_M_sitting_6 hl (by decide) rfl (fun ls hl => ?_)
  obtain ⟨e8, he8, hk8⟩ := xbd_some hf
  obtain ⟨n8, hq8⟩ := xlp_n he8
  have LH8 : ∀ (n : Nat) (v3 v4 : Int32) (ls : Array Slot), lv_has ls 5 [(0, .ref (ad 0)), (1, .int a1), (2, .int a2), (3, .int v3), (4, .int v4)] → xwh (bM_sitting_8 a1 a2 M) n (v3, v4) = some e8 → W p l e (rm0_ 0 0) s m args below meth c s.heap [] 0 0 (MQ below (QcRead out) args s 0 0 (fun _ => False)) (F0 m 8 ls []) := by
    intro n
    induction n with
    | zero =>
      intro v3 v4 ls hl hn
      exact xwh_0 hn
    | succ n ih8 =>
      intro v3 v4 ls hl hn8
      obtain ⟨o8, hf, hn8⟩ := xwh_s hn8
      have hf : gM_sitting_8 a1 a2 M v3 v4 = some o8 := hf
      have K43 : ∀ (v4 s43_0 : Int32) (ls : Array Slot), lv_has ls 5 [(0, .ref (ad 0)), (1, .int a1), (2, .int a2), (4, .int v4)] → fM_sitting_43 a1 a2 v4 s43_0 M = some o8 → W p l e (rm0_ 0 0) s m args below meth c s.heap [] 0 0 (MQ below (QcRead out) args s 0 0 (fun _ => False)) (F0 m 43 ls [.int s43_0]) := by
        intro v4 s43_0 ls  hl hf
        unfold fM_sitting_43 at hf
        refine lv_istore_n (lv' := [(3, .int s43_0), (0, .ref (ad 0)), (1, .int a1), (2, .int a2), (4, .int v4)]) hx hb d_M_sitting_43 rfl hl (by decide) rfl (fun ls hl => ?_)
        obtain ⟨x2, hx2, hf⟩ := xlt_some hf
        refine lv_iinc (k := 4) (lv' := [(4, .int x2), (3, .int s43_0), (0, .ref (ad 0)), (1, .int a1), (2, .int a2)]) hx hb d_M_sitting_44 hl rfl hx2 (by decide) rfl (fun ls hl => ?_)
        refine lv_goto (tgt := 8) hx hb d_M_sitting_47 rfl ?_
        exact ih8 s43_0 x2 _ (lv_sub hl [2, 3, 4, 1, 0] rfl) (xw_again hf hn8)
      unfold gM_sitting_8 at hf
      refine lv_iload hx hb d_M_sitting_8 (lv_at hl 4 rfl) ?_
      refine lv_bipush (v := 36) hx hb d_M_sitting_10 rfl ?_
      refine lv_iload_n hx hb d_M_sitting_12 rfl (lv_at hl 2 rfl) ?_
      refine lv_imul hx hb d_M_sitting_13 ?_
      refine lv_bipush (v := 36) hx hb d_M_sitting_14 rfl ?_
      refine lv_iadd hx hb d_M_sitting_16 ?_
      refine lv_icmp_ge (tgt := 50) hx hb d_M_sitting_17 rfl (fun hc => ?_) (fun hc => ?_)
      · have hf := ite_t hc hf
        have he := xw_exit hf hn8
        subst he
        have hf := hk8
        exact K50 v3 _  (lv_sub hl [3] rfl) hf
      · have hf := ite_f hc hf
        refine lv_aload_n hx hb d_M_sitting_20 rfl (lv_at hl 0 rfl) ?_
        refine xr_getr hx hb hT hown hK hP sM_0 rfl inM 18 (by decide) wf_M_59 rfl d_M_sitting_21 ?_
        refine lv_sipush (v := 144) hx hb d_M_sitting_24 rfl ?_
        refine lv_iload_n hx hb d_M_sitting_27 rfl (lv_at hl 1 rfl) ?_
        refine lv_imul hx hb d_M_sitting_28 ?_
        refine lv_iload hx hb d_M_sitting_29 (lv_at hl 4 rfl) ?_
        refine lv_iadd hx hb d_M_sitting_31 ?_
        obtain ⟨x3, hx3, hf⟩ := xlt_some hf
        refine xr_name hx3 ?_
        obtain ⟨g4, hf⟩ := xgd_some hf
        refine xr_iald hx hb hK hP sM_17 g4 d_M_sitting_32 ?_
        refine lv_if_le (tgt := 42) hx hb d_M_sitting_33 rfl (fun hc => ?_) (fun hc => ?_)
        · have hf := ite_t hc hf
          refine lv_iload_n hx hb d_M_sitting_42 rfl (lv_at hl 3 rfl) ?_
          exact K43 v4 v3 _  (lv_sub hl [0, 1, 2, 4] rfl) hf
        · have hf := ite_f hc hf
          refine lv_iload_n hx hb d_M_sitting_36 rfl (lv_at hl 3 rfl) ?_
          refine lv_iconst (v := 1) hx hb d_M_sitting_37 rfl ?_
          refine lv_iadd hx hb d_M_sitting_38 ?_
          refine lv_goto (tgt := 43) hx hb d_M_sitting_39 rfl ?_
          exact K43 v4 (v3 + 1) _  (lv_sub hl [0, 1, 2, 4] rfl) hf
  exact LH8 n8 0 x1 _ (lv_sub hl [2, 3, 4, 1, 0] rfl) hq8
noncomputable def fM_sessionsOf_79 (v2 : Int32) (M : Mem) : Option (Int32) := some v2
noncomputable def fM_sessionsOf_72 (v1 v3 s72_0 : Int32) (M : Mem) : Option ((Int32 × Int32) ⊕ (Int32 × Int32)) := xlt (v3 + 1) (fun x1 => some (.inr (s72_0, x1)))
noncomputable def fM_sessionsOf_60 (v1 v2 v3 v4 : Int32) (M : Mem) : Option ((Int32 × Int32) ⊕ (Int32 × Int32)) := if v4 = 0 then (fM_sessionsOf_72 v1 v3 v2 M) else (fM_sessionsOf_72 v1 v3 (v2 + 1) M)
noncomputable def fM_sessionsOf_52 (v1 v2 v3 v5 s52_0 : Int32) (M : Mem) : Option ((Int32 × Int32) ⊕ (Int32 × Int32)) := xlt (v5 + 1) (fun x2 => some (.inr (s52_0, x2)))
noncomputable def fM_sessionsOf_47 (v1 v2 v3 v5 : Int32) (M : Mem) : Option ((Int32 × Int32) ⊕ (Int32 × Int32)) := fM_sessionsOf_52 v1 v2 v3 v5 1 M
noncomputable def gM_sessionsOf_16 (v1 v2 v3 : Int32) (M : Mem) (v4 v5 : Int32) : Option ((Int32 × Int32) ⊕ (Int32 × Int32)) := if 4 ≤ v5 then (some (.inl (v4, v5))) else (if v4 = 0 then (xlt ((((40 * v3) + (10 * v5)) + v1)) (fun x3 => xgd (vp_in x3 240) (if (M 21 x3.toNatClampNeg) = 0 then (fM_sessionsOf_52 v1 v2 v3 v5 0 M) else (fM_sessionsOf_47 v1 v2 v3 v5 M)))) else (fM_sessionsOf_47 v1 v2 v3 v5 M))
noncomputable def bM_sessionsOf_16 (v1 v2 v3 : Int32) (M : Mem) : Int32 × Int32 → Option ((Int32 × Int32) ⊕ (Int32 × Int32)) := fun st => gM_sessionsOf_16 v1 v2 v3 M st.1 st.2
noncomputable def gM_sessionsOf_4 (v1 : Int32) (M : Mem) (v2 v3 : Int32) : Option ((Int32 × Int32) ⊕ (Int32 × Int32)) := if 6 ≤ v3 then (some (.inl (v2, v3))) else (xbd (xlp (bM_sessionsOf_16 v1 v2 v3 M) (0, 0)) (fun e16 => fM_sessionsOf_60 v1 v2 v3 e16.1 M))
noncomputable def bM_sessionsOf_4 (v1 : Int32) (M : Mem) : Int32 × Int32 → Option ((Int32 × Int32) ⊕ (Int32 × Int32)) := fun st => gM_sessionsOf_4 v1 M st.1 st.2
noncomputable def fM_sessionsOf (a1 : Int32) (M : Mem) : Option (Int32) := xbd (xlp (bM_sessionsOf_4 a1 M) (0, 0)) (fun e4 => fM_sessionsOf_79 e4.1 M)
set_option maxHeartbeats 4000000 in
set_option maxRecDepth 100000 in
theorem tM_sessionsOf (l : Launch) (G : va_G) (c3 : ClassId × ClassId × ClassId) (ad : Nat → Nat) (M : Mem) (a1 : Int32) (out : Int32) (hf : fM_sessionsOf a1 M = some out) : RMet l yM_sessionsOf cM_sessionsOf 6 (some .int) (rm0_ 0 0) G kl SM c3 ad M [.ref (ad 0), .int a1] out := by
  refine RMet.of (by decide +kernel) (Nat.le_of_ble_eq_true rfl) (fun p e s m args below meth c ls F hT hK hP hr hlk hl => ?_)
  have hx := F.1
  have hb := F.2.1
  have F : CallFix p m c cM_sessionsOf 6 s args gw RM := F
  have hown := F.2.2.2.1
  have hl : lv_has ls 6 [(0, .ref (ad 0)), (1, .int a1)] := hl
  have K79 : ∀ (v2 : Int32) (ls : Array Slot), lv_has ls 6 [(2, .int v2)] → fM_sessionsOf_79 v2 M = some out → W p l e (rm0_ 0 0) s m args below meth c s.heap [] 0 0 (MQ below (QcRead out) args s 0 0 (fun _ => False)) (F0 m 79 ls []) := by
    intro v2 ls  hl hf
    unfold fM_sessionsOf_79 at hf
    refine lv_iload_n hx hb d_M_sessionsOf_79 rfl (lv_at hl 0 rfl) ?_
    exact xr_iret hx hb hr hlk (Option.some.inj hf) d_M_sessionsOf_80
  unfold fM_sessionsOf at hf
  refine lv_iconst (v := 0) hx hb d_M_sessionsOf_0 rfl ?_
  refine lv_istore_n (lv' := [(2, .int 0), (0, .ref (ad 0)), (1, .int a1)]) hx hb d_M_sessionsOf_1 rfl hl (by decide) rfl (fun ls hl => ?_)
  refine lv_iconst (v := 0) hx hb d_M_sessionsOf_2 rfl ?_
  refine lv_istore_n (lv' := [(3, .int 0), (2, .int 0), (0, .ref (ad 0)), (1, .int a1)]) hx hb d_M_sessionsOf_3 rfl hl (by decide) rfl (fun ls hl => ?_)
  obtain ⟨e4, he4, hk4⟩ := xbd_some hf
  obtain ⟨n4, hq4⟩ := xlp_n he4
  have LH4 : ∀ (n : Nat) (v2 v3 : Int32) (ls : Array Slot), lv_has ls 6 [(0, .ref (ad 0)), (1, .int a1), (2, .int v2), (3, .int v3)] → xwh (bM_sessionsOf_4 a1 M) n (v2, v3) = some e4 → W p l e (rm0_ 0 0) s m args below meth c s.heap [] 0 0 (MQ below (QcRead out) args s 0 0 (fun _ => False)) (F0 m 4 ls []) := by
    intro n
    induction n with
    | zero =>
      intro v2 v3 ls hl hn
      exact xwh_0 hn
    | succ n ih4 =>
      intro v2 v3 ls hl hn4
      obtain ⟨o4, hf, hn4⟩ := xwh_s hn4
      have hf : gM_sessionsOf_4 a1 M v2 v3 = some o4 := hf
      have K72 : ∀ (v3 s72_0 : Int32) (ls : Array Slot), lv_has ls 6 [(0, .ref (ad 0)), (1, .int a1), (3, .int v3)] → fM_sessionsOf_72 a1 v3 s72_0 M = some o4 → W p l e (rm0_ 0 0) s m args below meth c s.heap [] 0 0 (MQ below (QcRead out) args s 0 0 (fun _ => False)) (F0 m 72 ls [.int s72_0]) := by
        intro v3 s72_0 ls  hl hf
        unfold fM_sessionsOf_72 at hf
        refine lv_istore_n (lv' := [(2, .int s72_0), (0, .ref (ad 0)), (1, .int a1), (3, .int v3)]) hx hb d_M_sessionsOf_72 rfl hl (by decide) rfl (fun ls hl => ?_)
        obtain ⟨x1, hx1, hf⟩ := xlt_some hf
        refine lv_iinc (k := 3) (lv' := [(3, .int x1), (2, .int s72_0), (0, .ref (ad 0)), (1, .int a1)]) hx hb d_M_sessionsOf_73 hl rfl hx1 (by decide) rfl (fun ls hl => ?_)
        refine lv_goto (tgt := 4) hx hb d_M_sessionsOf_76 rfl ?_
        exact ih4 s72_0 x1 _ (lv_sub hl [2, 3, 1, 0] rfl) (xw_again hf hn4)
      have K60 : ∀ (v2 v3 v4 : Int32) (ls : Array Slot), lv_has ls 6 [(0, .ref (ad 0)), (1, .int a1), (2, .int v2), (3, .int v3), (4, .int v4)] → fM_sessionsOf_60 a1 v2 v3 v4 M = some o4 → W p l e (rm0_ 0 0) s m args below meth c s.heap [] 0 0 (MQ below (QcRead out) args s 0 0 (fun _ => False)) (F0 m 60 ls []) := by
        intro v2 v3 v4 ls  hl hf
        unfold fM_sessionsOf_60 at hf
        refine lv_iload hx hb d_M_sessionsOf_60 (lv_at hl 4 rfl) ?_
        refine lv_if_eq (tgt := 71) hx hb d_M_sessionsOf_62 rfl (fun hc => ?_) (fun hc => ?_)
        · have hf := ite_t hc hf
          refine lv_iload_n hx hb d_M_sessionsOf_71 rfl (lv_at hl 2 rfl) ?_
          exact K72 v3 v2 _  (lv_sub hl [0, 1, 3] rfl) hf
        · have hf := ite_f hc hf
          refine lv_iload_n hx hb d_M_sessionsOf_65 rfl (lv_at hl 2 rfl) ?_
          refine lv_iconst (v := 1) hx hb d_M_sessionsOf_66 rfl ?_
          refine lv_iadd hx hb d_M_sessionsOf_67 ?_
          refine lv_goto (tgt := 72) hx hb d_M_sessionsOf_68 rfl ?_
          exact K72 v3 (v2 + 1) _  (lv_sub hl [0, 1, 3] rfl) hf
      unfold gM_sessionsOf_4 at hf
      refine lv_iload_n hx hb d_M_sessionsOf_4 rfl (lv_at hl 3 rfl) ?_
      refine lv_bipush (v := 6) hx hb d_M_sessionsOf_5 rfl ?_
      refine lv_icmp_ge (tgt := 79) hx hb d_M_sessionsOf_7 rfl (fun hc => ?_) (fun hc => ?_)
      · have hf := ite_t hc hf
        have he := xw_exit hf hn4
        subst he
        have hf := hk4
        exact K79 v2 _  (lv_sub hl [2] rfl) hf
      · have hf := ite_f hc hf
        refine lv_iconst (v := 0) hx hb d_M_sessionsOf_10 rfl ?_
        refine lv_istore (lv' := [(4, .int 0), (0, .ref (ad 0)), (1, .int a1), (2, .int v2), (3, .int v3)]) hx hb d_M_sessionsOf_11 hl (by decide) rfl (fun ls hl => ?_)
        refine lv_iconst (v := 0) hx hb d_M_sessionsOf_13 rfl ?_
        refine lv_istore (lv' := [(5, .int 0), (4, .int 0), (0, .ref (ad 0)), (1, .int a1), (2, .int v2), (3, .int v3)]) hx hb d_M_sessionsOf_14 hl (by decide) rfl (fun ls hl => ?_)
        obtain ⟨e16, he16, hk16⟩ := xbd_some hf
        obtain ⟨n16, hq16⟩ := xlp_n he16
        have LH16 : ∀ (n : Nat) (v4 v5 : Int32) (ls : Array Slot), lv_has ls 6 [(0, .ref (ad 0)), (1, .int a1), (2, .int v2), (3, .int v3), (4, .int v4), (5, .int v5)] → xwh (bM_sessionsOf_16 a1 v2 v3 M) n (v4, v5) = some e16 → W p l e (rm0_ 0 0) s m args below meth c s.heap [] 0 0 (MQ below (QcRead out) args s 0 0 (fun _ => False)) (F0 m 16 ls []) := by
          intro n
          induction n with
          | zero =>
            intro v4 v5 ls hl hn
            exact xwh_0 hn
          | succ n ih16 =>
            intro v4 v5 ls hl hn16
            obtain ⟨o16, hf, hn16⟩ := xwh_s hn16
            have hf : gM_sessionsOf_16 a1 v2 v3 M v4 v5 = some o16 := hf
            have K52 : ∀ (v5 s52_0 : Int32) (ls : Array Slot), lv_has ls 6 [(0, .ref (ad 0)), (1, .int a1), (2, .int v2), (3, .int v3), (5, .int v5)] → fM_sessionsOf_52 a1 v2 v3 v5 s52_0 M = some o16 → W p l e (rm0_ 0 0) s m args below meth c s.heap [] 0 0 (MQ below (QcRead out) args s 0 0 (fun _ => False)) (F0 m 52 ls [.int s52_0]) := by
              intro v5 s52_0 ls  hl hf
              unfold fM_sessionsOf_52 at hf
              refine lv_istore (lv' := [(4, .int s52_0), (0, .ref (ad 0)), (1, .int a1), (2, .int v2), (3, .int v3), (5, .int v5)]) hx hb d_M_sessionsOf_52 hl (by decide) rfl (fun ls hl => ?_)
              obtain ⟨x2, hx2, hf⟩ := xlt_some hf
              refine lv_iinc (k := 5) (lv' := [(5, .int x2), (4, .int s52_0), (0, .ref (ad 0)), (1, .int a1), (2, .int v2), (3, .int v3)]) hx hb d_M_sessionsOf_54 hl rfl hx2 (by decide) rfl (fun ls hl => ?_)
              refine lv_goto (tgt := 16) hx hb d_M_sessionsOf_57 rfl ?_
              exact ih16 s52_0 x2 _ (lv_sub hl [2, 3, 4, 5, 1, 0] rfl) (xw_again hf hn16)
            have K47 : ∀ (v5 : Int32) (ls : Array Slot), lv_has ls 6 [(0, .ref (ad 0)), (1, .int a1), (2, .int v2), (3, .int v3), (5, .int v5)] → fM_sessionsOf_47 a1 v2 v3 v5 M = some o16 → W p l e (rm0_ 0 0) s m args below meth c s.heap [] 0 0 (MQ below (QcRead out) args s 0 0 (fun _ => False)) (F0 m 47 ls []) := by
              intro v5 ls  hl hf
              unfold fM_sessionsOf_47 at hf
              refine lv_iconst (v := 1) hx hb d_M_sessionsOf_47 rfl ?_
              refine lv_goto (tgt := 52) hx hb d_M_sessionsOf_48 rfl ?_
              exact K52 v5 1 _  hl hf
            unfold gM_sessionsOf_16 at hf
            refine lv_iload hx hb d_M_sessionsOf_16 (lv_at hl 5 rfl) ?_
            refine lv_iconst (v := 4) hx hb d_M_sessionsOf_18 rfl ?_
            refine lv_icmp_ge (tgt := 60) hx hb d_M_sessionsOf_19 rfl (fun hc => ?_) (fun hc => ?_)
            · have hf := ite_t hc hf
              have he := xw_exit hf hn16
              subst he
              have hf := hk16
              exact K60 v2 v3 v4 _  (lv_sub hl [0, 1, 2, 3, 4] rfl) hf
            · have hf := ite_f hc hf
              refine lv_iload hx hb d_M_sessionsOf_22 (lv_at hl 4 rfl) ?_
              refine lv_if_ne (tgt := 47) hx hb d_M_sessionsOf_24 rfl (fun hc => ?_) (fun hc => ?_)
              · have hf := ite_f hc hf
                exact K47 v5 _  (lv_sub hl [0, 1, 2, 3, 5] rfl) hf
              · have hf := ite_t hc hf
                refine lv_aload_n hx hb d_M_sessionsOf_27 rfl (lv_at hl 0 rfl) ?_
                refine xr_getr hx hb hT hown hK hP sM_0 rfl inM 22 (by decide) wf_M_71 rfl d_M_sessionsOf_28 ?_
                refine lv_bipush (v := 40) hx hb d_M_sessionsOf_31 rfl ?_
                refine lv_iload_n hx hb d_M_sessionsOf_33 rfl (lv_at hl 3 rfl) ?_
                refine lv_imul hx hb d_M_sessionsOf_34 ?_
                refine lv_bipush (v := 10) hx hb d_M_sessionsOf_35 rfl ?_
                refine lv_iload hx hb d_M_sessionsOf_37 (lv_at hl 5 rfl) ?_
                refine lv_imul hx hb d_M_sessionsOf_39 ?_
                refine lv_iadd hx hb d_M_sessionsOf_40 ?_
                refine lv_iload_n hx hb d_M_sessionsOf_41 rfl (lv_at hl 1 rfl) ?_
                refine lv_iadd hx hb d_M_sessionsOf_42 ?_
                obtain ⟨x3, hx3, hf⟩ := xlt_some hf
                refine xr_name hx3 ?_
                obtain ⟨g4, hf⟩ := xgd_some hf
                refine xr_zald hx hb hK hP sM_21 g4 d_M_sessionsOf_43 ?_
                refine lv_if_eq (tgt := 51) hx hb d_M_sessionsOf_44 rfl (fun hc => ?_) (fun hc => ?_)
                · have hf := ite_t hc hf
                  refine lv_iconst (v := 0) hx hb d_M_sessionsOf_51 rfl ?_
                  exact K52 v5 0 _  (lv_sub hl [0, 1, 2, 3, 5] rfl) hf
                · have hf := ite_f hc hf
                  exact K47 v5 _  (lv_sub hl [0, 1, 2, 3, 5] rfl) hf
        exact LH16 n16 0 0 _ (lv_sub hl [2, 3, 4, 5, 1, 0] rfl) hq16
  exact LH4 n4 0 0 _ (lv_sub hl [2, 3, 1, 0] rfl) hq4
noncomputable def fM_mayWatch_99 (v4 : Int32) (M : Mem) : Option (Int32) := xgd (v4 = 0 ∨ v4 = 1) (some v4)
noncomputable def fM_mayWatch_91 (v1 v2 v3 v5 s91_0 : Int32) (M : Mem) : Option ((Int32 × Int32) ⊕ (Int32 × Int32)) := xlt (v5 + 1) (fun x2 => some (.inr (s91_0, x2)))
noncomputable def fM_mayWatch_90 (v1 v2 v3 v5 : Int32) (M : Mem) : Option ((Int32 × Int32) ⊕ (Int32 × Int32)) := fM_mayWatch_91 v1 v2 v3 v5 0 M
noncomputable def fM_mayWatch_86 (v1 v2 v3 v5 : Int32) (M : Mem) : Option ((Int32 × Int32) ⊕ (Int32 × Int32)) := fM_mayWatch_91 v1 v2 v3 v5 1 M
noncomputable def gM_mayWatch_27 (v1 v2 v3 : Int32) (M : Mem) (v4 v5 : Int32) : Option ((Int32 × Int32) ⊕ (Int32 × Int32)) := if ((36 * v2) + 36) ≤ v5 then (some (.inl (v4, v5))) else (if v4 = 0 then (fM_mayWatch_90 v1 v2 v3 v5 M) else (xlt (((144 * v1) + v5)) (fun x3 => xgd (vp_in x3 864) (if (M 17 x3.toNatClampNeg) = 0 then (fM_mayWatch_86 v1 v2 v3 v5 M) else (xlt (((144 * v1) + v5)) (fun x5 => xgd (vp_in x5 864) (xlt (((9 * v3) + (M 18 x5.toNatClampNeg))) (fun x7 => xgd (vp_in x7 90) (if (M 20 x7.toNatClampNeg) = 0 then (fM_mayWatch_86 v1 v2 v3 v5 M) else (fM_mayWatch_90 v1 v2 v3 v5 M))))))))))
noncomputable def bM_mayWatch_27 (v1 v2 v3 : Int32) (M : Mem) : Int32 × Int32 → Option ((Int32 × Int32) ⊕ (Int32 × Int32)) := fun st => gM_mayWatch_27 v1 v2 v3 M st.1 st.2
noncomputable def fM_mayWatch_19 (v1 v2 v3 s19_0 : Int32) (M : Mem) : Option (Int32) := xlt ((36 * v2)) (fun x9 => xbd (xlp (bM_mayWatch_27 v1 v2 v3 M) (s19_0, x9)) (fun e27 => fM_mayWatch_99 e27.1 M))
noncomputable def fM_mayWatch (a1 a2 a3 : Int32) (M : Mem) : Option (Int32) := xbd (fM_sessionsOf a3 M) (fun r17 => xgd (vp_in a3 10) (if (M 19 a3.toNatClampNeg) ≤ r17 then (fM_mayWatch_19 a1 a2 a3 0 M) else (fM_mayWatch_19 a1 a2 a3 1 M)))
set_option maxHeartbeats 4000000 in
set_option maxRecDepth 100000 in
theorem tM_mayWatch (l : Launch) (G : va_G) (c3 : ClassId × ClassId × ClassId) (ad : Nat → Nat) (M : Mem) (a1 a2 a3 : Int32) (out : Int32) (hf : fM_mayWatch a1 a2 a3 M = some out) : RMet l yM_mayWatch cM_mayWatch 6 (some .boolean) (rm0_ 1 25) G kl SM c3 ad M [.ref (ad 0), .int a1, .int a2, .int a3] out := by
  refine RMet.of (by decide +kernel) (Nat.le_of_ble_eq_true rfl) (fun p e s m args below meth c ls F hT hK hP hr hlk hl => ?_)
  have hx := F.1
  have hb := F.2.1
  have F : CallFix p m c cM_mayWatch 6 s args gw RM := F
  have hown := F.2.2.2.1
  have hl : lv_has ls 6 [(0, .ref (ad 0)), (1, .int a1), (2, .int a2), (3, .int a3)] := hl
  have K99 : ∀ (v4 : Int32) (ls : Array Slot), lv_has ls 6 [(4, .int v4)] → fM_mayWatch_99 v4 M = some out → W p l e (rm0_ 1 25) s m args below meth c s.heap [] 0 0 (MQ below (QcRead out) args s 0 0 (fun _ => False)) (F0 m 99 ls []) := by
    intro v4 ls  hl hf
    unfold fM_mayWatch_99 at hf
    refine lv_iload hx hb d_M_mayWatch_99 (lv_at hl 0 rfl) ?_
    obtain ⟨z1, hf⟩ := xgd_some hf
    exact xr_zret hx hb hr hlk z1 (Option.some.inj hf) d_M_mayWatch_101
  have K19 : ∀ (v1 v2 v3 s19_0 : Int32) (ls : Array Slot), lv_has ls 6 [(0, .ref (ad 0)), (1, .int v1), (2, .int v2), (3, .int v3)] → fM_mayWatch_19 v1 v2 v3 s19_0 M = some out → W p l e (rm0_ 1 25) s m args below meth c s.heap [] 0 0 (MQ below (QcRead out) args s 0 0 (fun _ => False)) (F0 m 19 ls [.int s19_0]) := by
    intro v1 v2 v3 s19_0 ls  hl hf
    unfold fM_mayWatch_19 at hf
    refine lv_istore (lv' := [(4, .int s19_0), (0, .ref (ad 0)), (1, .int v1), (2, .int v2), (3, .int v3)]) hx hb d_M_mayWatch_19 hl (by decide) rfl (fun ls hl => ?_)
    refine lv_bipush (v := 36) hx hb d_M_mayWatch_21 rfl ?_
    refine lv_iload_n hx hb d_M_mayWatch_23 rfl (lv_at hl 3 rfl) ?_
    refine lv_imul hx hb d_M_mayWatch_24 ?_
    obtain ⟨x2, hx2, hf⟩ := xlt_some hf
    refine xr_name hx2 ?_
    refine lv_istore (lv' := [(5, .int x2), (4, .int s19_0), (0, .ref (ad 0)), (1, .int v1), (2, .int v2), (3, .int v3)]) hx hb d_M_mayWatch_25 hl (by decide) rfl (fun ls hl => ?_)
    obtain ⟨e27, he27, hk27⟩ := xbd_some hf
    obtain ⟨n27, hq27⟩ := xlp_n he27
    have LH27 : ∀ (n : Nat) (v4 v5 : Int32) (ls : Array Slot), lv_has ls 6 [(0, .ref (ad 0)), (1, .int v1), (2, .int v2), (3, .int v3), (4, .int v4), (5, .int v5)] → xwh (bM_mayWatch_27 v1 v2 v3 M) n (v4, v5) = some e27 → W p l e (rm0_ 1 25) s m args below meth c s.heap [] 0 0 (MQ below (QcRead out) args s 0 0 (fun _ => False)) (F0 m 27 ls []) := by
      intro n
      induction n with
      | zero =>
        intro v4 v5 ls hl hn
        exact xwh_0 hn
      | succ n ih27 =>
        intro v4 v5 ls hl hn27
        obtain ⟨o27, hf, hn27⟩ := xwh_s hn27
        have hf : gM_mayWatch_27 v1 v2 v3 M v4 v5 = some o27 := hf
        have K91 : ∀ (v5 s91_0 : Int32) (ls : Array Slot), lv_has ls 6 [(0, .ref (ad 0)), (1, .int v1), (2, .int v2), (3, .int v3), (5, .int v5)] → fM_mayWatch_91 v1 v2 v3 v5 s91_0 M = some o27 → W p l e (rm0_ 1 25) s m args below meth c s.heap [] 0 0 (MQ below (QcRead out) args s 0 0 (fun _ => False)) (F0 m 91 ls [.int s91_0]) := by
          intro v5 s91_0 ls  hl hf
          unfold fM_mayWatch_91 at hf
          refine lv_istore (lv' := [(4, .int s91_0), (0, .ref (ad 0)), (1, .int v1), (2, .int v2), (3, .int v3), (5, .int v5)]) hx hb d_M_mayWatch_91 hl (by decide) rfl (fun ls hl => ?_)
          obtain ⟨x3, hx3, hf⟩ := xlt_some hf
          refine lv_iinc (k := 5) (lv' := [(5, .int x3), (4, .int s91_0), (0, .ref (ad 0)), (1, .int v1), (2, .int v2), (3, .int v3)]) hx hb d_M_mayWatch_93 hl rfl hx3 (by decide) rfl (fun ls hl => ?_)
          refine lv_goto (tgt := 27) hx hb d_M_mayWatch_96 rfl ?_
          exact ih27 s91_0 x3 _ (lv_sub hl [2, 3, 4, 5, 1, 0] rfl) (xw_again hf hn27)
        have K90 : ∀ (v5 : Int32) (ls : Array Slot), lv_has ls 6 [(0, .ref (ad 0)), (1, .int v1), (2, .int v2), (3, .int v3), (5, .int v5)] → fM_mayWatch_90 v1 v2 v3 v5 M = some o27 → W p l e (rm0_ 1 25) s m args below meth c s.heap [] 0 0 (MQ below (QcRead out) args s 0 0 (fun _ => False)) (F0 m 90 ls []) := by
          intro v5 ls  hl hf
          unfold fM_mayWatch_90 at hf
          refine lv_iconst (v := 0) hx hb d_M_mayWatch_90 rfl ?_
          exact K91 v5 0 _  hl hf
        have K86 : ∀ (v5 : Int32) (ls : Array Slot), lv_has ls 6 [(0, .ref (ad 0)), (1, .int v1), (2, .int v2), (3, .int v3), (5, .int v5)] → fM_mayWatch_86 v1 v2 v3 v5 M = some o27 → W p l e (rm0_ 1 25) s m args below meth c s.heap [] 0 0 (MQ below (QcRead out) args s 0 0 (fun _ => False)) (F0 m 86 ls []) := by
          intro v5 ls  hl hf
          unfold fM_mayWatch_86 at hf
          refine lv_iconst (v := 1) hx hb d_M_mayWatch_86 rfl ?_
          refine lv_goto (tgt := 91) hx hb d_M_mayWatch_87 rfl ?_
          exact K91 v5 1 _  hl hf
        unfold gM_mayWatch_27 at hf
        refine lv_iload hx hb d_M_mayWatch_27 (lv_at hl 5 rfl) ?_
        refine lv_bipush (v := 36) hx hb d_M_mayWatch_29 rfl ?_
        refine lv_iload_n hx hb d_M_mayWatch_31 rfl (lv_at hl 2 rfl) ?_
        refine lv_imul hx hb d_M_mayWatch_32 ?_
        refine lv_bipush (v := 36) hx hb d_M_mayWatch_33 rfl ?_
        refine lv_iadd hx hb d_M_mayWatch_35 ?_
        refine lv_icmp_ge (tgt := 99) hx hb d_M_mayWatch_36 rfl (fun hc => ?_) (fun hc => ?_)
        · have hf := ite_t hc hf
          have he := xw_exit hf hn27
          subst he
          have hf := hk27
          exact K99 v4 _  (lv_sub hl [4] rfl) hf
        · have hf := ite_f hc hf
          refine lv_iload hx hb d_M_mayWatch_39 (lv_at hl 4 rfl) ?_
          refine lv_if_eq (tgt := 90) hx hb d_M_mayWatch_41 rfl (fun hc => ?_) (fun hc => ?_)
          · have hf := ite_t hc hf
            exact K90 v5 _  (lv_sub hl [0, 1, 2, 3, 5] rfl) hf
          · have hf := ite_f hc hf
            refine lv_aload_n hx hb d_M_mayWatch_44 rfl (lv_at hl 0 rfl) ?_
            refine xr_getr hx hb hT hown hK hP sM_0 rfl inM 18 (by decide) wf_M_59 rfl d_M_mayWatch_45 ?_
            refine lv_sipush (v := 144) hx hb d_M_mayWatch_48 rfl ?_
            refine lv_iload_n hx hb d_M_mayWatch_51 rfl (lv_at hl 1 rfl) ?_
            refine lv_imul hx hb d_M_mayWatch_52 ?_
            refine lv_iload hx hb d_M_mayWatch_53 (lv_at hl 5 rfl) ?_
            refine lv_iadd hx hb d_M_mayWatch_55 ?_
            obtain ⟨x4, hx4, hf⟩ := xlt_some hf
            refine xr_name hx4 ?_
            obtain ⟨g5, hf⟩ := xgd_some hf
            refine xr_iald hx hb hK hP sM_17 g5 d_M_mayWatch_56 ?_
            refine lv_if_eq (tgt := 86) hx hb d_M_mayWatch_57 rfl (fun hc => ?_) (fun hc => ?_)
            · have hf := ite_t hc hf
              exact K86 v5 _  (lv_sub hl [0, 1, 2, 3, 5] rfl) hf
            · have hf := ite_f hc hf
              refine lv_aload_n hx hb d_M_mayWatch_60 rfl (lv_at hl 0 rfl) ?_
              refine xr_getr hx hb hT hown hK hP sM_0 rfl inM 21 (by decide) wf_M_68 rfl d_M_mayWatch_61 ?_
              refine lv_bipush (v := 9) hx hb d_M_mayWatch_64 rfl ?_
              refine lv_iload_n hx hb d_M_mayWatch_66 rfl (lv_at hl 3 rfl) ?_
              refine lv_imul hx hb d_M_mayWatch_67 ?_
              refine lv_aload_n hx hb d_M_mayWatch_68 rfl (lv_at hl 0 rfl) ?_
              refine xr_getr hx hb hT hown hK hP sM_0 rfl inM 19 (by decide) wf_M_62 rfl d_M_mayWatch_69 ?_
              refine lv_sipush (v := 144) hx hb d_M_mayWatch_72 rfl ?_
              refine lv_iload_n hx hb d_M_mayWatch_75 rfl (lv_at hl 1 rfl) ?_
              refine lv_imul hx hb d_M_mayWatch_76 ?_
              refine lv_iload hx hb d_M_mayWatch_77 (lv_at hl 5 rfl) ?_
              refine lv_iadd hx hb d_M_mayWatch_79 ?_
              obtain ⟨x6, hx6, hf⟩ := xlt_some hf
              refine xr_name hx6 ?_
              obtain ⟨g7, hf⟩ := xgd_some hf
              refine xr_iald hx hb hK hP sM_18 g7 d_M_mayWatch_80 ?_
              refine lv_iadd hx hb d_M_mayWatch_81 ?_
              obtain ⟨x8, hx8, hf⟩ := xlt_some hf
              refine xr_name hx8 ?_
              obtain ⟨g9, hf⟩ := xgd_some hf
              refine xr_zald hx hb hK hP sM_20 g9 d_M_mayWatch_82 ?_
              refine lv_if_ne (tgt := 90) hx hb d_M_mayWatch_83 rfl (fun hc => ?_) (fun hc => ?_)
              · have hf := ite_f hc hf
                exact K90 v5 _  (lv_sub hl [0, 1, 2, 3, 5] rfl) hf
              · have hf := ite_t hc hf
                exact K86 v5 _  (lv_sub hl [0, 1, 2, 3, 5] rfl) hf
    exact LH27 n27 s19_0 x2 _ (lv_sub hl [2, 3, 4, 5, 1, 0] rfl) hq27
  unfold fM_mayWatch at hf
  refine lv_aload_n hx hb d_M_mayWatch_0 rfl (lv_at hl 0 rfl) ?_
  refine lv_iload_n hx hb d_M_mayWatch_1 rfl (lv_at hl 3 rfl) ?_
  obtain ⟨r10, hr10, hf⟩ := xbd_some hf
  refine xc_rv (rest := []) F hT hK hP (tM_sessionsOf l G c3 ad M a3 r10 hr10) sM_0 rfl wl_M_161 wi_M_sessionsOf we_M_sessionsOf wn_M wc_M_sessionsOf ck_M_sessionsOf ⟨rfl, rfl⟩ ⟨by decide, by decide⟩ ⟨Nat.le_refl _, Nat.le_refl _⟩ hl.1 rfl (Nat.le_of_ble_eq_true rfl) d_M_mayWatch_2 ?_
  refine lv_aload_n hx hb d_M_mayWatch_5 rfl (lv_at hl 0 rfl) ?_
  refine xr_getr hx hb hT hown hK hP sM_0 rfl inM 20 (by decide) wf_M_65 rfl d_M_mayWatch_6 ?_
  refine lv_iload_n hx hb d_M_mayWatch_9 rfl (lv_at hl 3 rfl) ?_
  obtain ⟨g11, hf⟩ := xgd_some hf
  refine xr_iald hx hb hK hP sM_19 g11 d_M_mayWatch_10 ?_
  refine lv_icmp_ge (tgt := 18) hx hb d_M_mayWatch_11 rfl (fun hc => ?_) (fun hc => ?_)
  · have hf := ite_t hc hf
    refine lv_iconst (v := 0) hx hb d_M_mayWatch_18 rfl ?_
    exact K19 a1 a2 a3 0 _  hl hf
  · have hf := ite_f hc hf
    refine lv_iconst (v := 1) hx hb d_M_mayWatch_14 rfl ?_
    refine lv_goto (tgt := 19) hx hb d_M_mayWatch_15 rfl ?_
    exact K19 a1 a2 a3 1 _  hl hf
noncomputable def fM_given_135 (M : Mem) : Option (Int32 × Mem) := xgd ((1 : Int32) = 0 ∨ (1 : Int32) = 1) (some (1, M))
noncomputable def fM_given_129 (v1 v2 v3 v4 : Int32) (M : Mem) : Option ((Int32 × Int32 × Mem) ⊕ (Int32 × Int32 × Mem)) := xlt (v4 + 1) (fun x2 => some (.inr (v3, x2, M)))
noncomputable def fM_given_123 (v1 v2 v3 v4 v5 v6 : Int32) (M : Mem) : Option ((Int32 × Int32 × Int32 × Mem) ⊕ (Int32 × Int32 × Int32 × Mem)) := xlt (v6 + 1) (fun x3 => some (.inr (v3, v5, x3, M)))
noncomputable def fM_given_85 (v1 v2 v3 v4 v6 s85_0 : Int32) (M : Mem) : Option ((Int32 × Int32 × Int32 × Mem) ⊕ (Int32 × Int32 × Int32 × Mem)) := if s85_0 = 0 then (fM_given_123 v1 v2 v3 v4 s85_0 v6 M) else (xlt ((v3 ||| ((1 : Int32) <<< (v6 &&& 31)))) (fun x4 => xgd (vp_in v4 41) (xgd (vp_in (((40 * v1) + (10 * (M 22 v4.toNatClampNeg))) + v6) 240) (xlt (up2 M 21 ((((40 * v1) + (10 * (M 22 v4.toNatClampNeg))) + v6).toNatClampNeg) (vp_nar .boolean 1)) (fun M7 => fM_given_123 v1 v2 x4 v4 s85_0 v6 M7)))))
noncomputable def fM_given_84 (v1 v2 v3 v4 v6 : Int32) (M : Mem) : Option ((Int32 × Int32 × Int32 × Mem) ⊕ (Int32 × Int32 × Int32 × Mem)) := fM_given_85 v1 v2 v3 v4 v6 0 M
noncomputable def gM_given_17 (v1 v2 v4 : Int32) (v3 v5 v6 : Int32) (M : Mem) : Option ((Int32 × Int32 × Int32 × Mem) ⊕ (Int32 × Int32 × Int32 × Mem)) := if 10 ≤ v6 then (some (.inl (v3, v5, v6, M))) else (if v5 = 0 then (xbd (fM_has v3 v6) (fun r8 => if r8 = 0 then (xgd (vp_in v4 41) (xbd (fM_mayWatch v1 (M 22 v4.toNatClampNeg) v6 M) (fun r10 => if r10 = 0 then (fM_given_84 v1 v2 v3 v4 v6 M) else (xlt ((((1024 * v4) + 1024) + (v3 ||| ((1 : Int32) <<< (v6 &&& 31))))) (fun x11 => xgd (vp_in x11 41984) (if (M 23 x11.toNatClampNeg) = 0 then (fM_given_84 v1 v2 v3 v4 v6 M) else (fM_given_85 v1 v2 v3 v4 v6 1 M))))))) else (fM_given_84 v1 v2 v3 v4 v6 M))) else (some (.inl (v3, v5, v6, M))))
noncomputable def bM_given_17 (v1 v2 v4 : Int32) : Int32 × Int32 × Int32 × Mem → Option ((Int32 × Int32 × Int32 × Mem) ⊕ (Int32 × Int32 × Int32 × Mem)) := fun st => gM_given_17 v1 v2 v4 st.1 st.2.1 st.2.2.1 st.2.2.2
noncomputable def gM_given_5 (v1 v2 : Int32) (v3 v4 : Int32) (M : Mem) : Option ((Int32 × Int32 × Mem) ⊕ (Int32 × Int32 × Mem)) := if v2 ≤ v4 then (some (.inl (v3, v4, M))) else (xbd (xlp (bM_given_17 v1 v2 v4) (v3, 0, 0, M)) (fun e17 => fM_given_129 v1 v2 e17.1 v4 e17.2.2.2))
noncomputable def bM_given_5 (v1 v2 : Int32) : Int32 × Int32 × Mem → Option ((Int32 × Int32 × Mem) ⊕ (Int32 × Int32 × Mem)) := fun st => gM_given_5 v1 v2 st.1 st.2.1 st.2.2
noncomputable def fM_given (a1 a2 : Int32) (M : Mem) : Option (Int32 × Mem) := xbd (xlp (bM_given_5 a1 a2) (0, 0, M)) (fun e5 => fM_given_135  e5.2.2)
set_option maxHeartbeats 4000000 in
set_option maxRecDepth 100000 in
theorem tM_given (l : Launch) (G : va_G) (c3 : ClassId × ClassId × ClassId) (ad : Nat → Nat) (hd : adI SM ad) (M : Mem) (a1 a2 : Int32) (o1 : Int32) (o2 : Mem) (hf : fM_given a1 a2 M = some (o1, o2)) : WMet l yM_given cM_given 7 (some .boolean) (rm0_ 2 50) G kl SM c3 ad M [.ref (ad 0), .int a1, .int a2] (some (.int o1)) o2 := by
  generalize hout : (o1, o2) = out at hf
  obtain rfl : out.1 = o1 := by rw [← hout]
  obtain rfl : out.2 = o2 := by rw [← hout]
  clear hout
  refine WMet.of (by decide +kernel) (Nat.le_of_ble_eq_true rfl) (fun p e s m args below meth c ls F hT hK hP hr hlk hl hS => ?_)
  have hx := F.1
  have hb := F.2.1
  have F : CallFix p m c cM_given 7 s args gw RM := F
  have hown := F.2.2.2.1
  have hl : lv_has ls 7 [(0, .ref (ad 0)), (1, .int a1), (2, .int a2)] := hl
  revert hP hS
  suffices hall : ∀ (H : Heap) (locs : List Loc), va_P G kl (wd SM c3 ad M) H → va_S (adA SM ad) s.heap H locs → W p l e (rm0_ 2 50) s m args below meth c H locs 0 0 (MQ below (QW G kl SM c3 ad (some (.int out.1)) out.2) args s 0 0 (adA SM ad)) (F0 m 0 ls []) from hall s.heap []
  intro H locs hP hS
  have K135 : ∀ (M : Mem) (H : Heap) (locs : List Loc) (ls : Array Slot), lv_has ls 7 [] → va_P G kl (wd SM c3 ad M) H → va_S (adA SM ad) s.heap H locs → fM_given_135  M = some out → W p l e (rm0_ 2 50) s m args below meth c H locs 0 0 (MQ below (QW G kl SM c3 ad (some (.int out.1)) out.2) args s 0 0 (adA SM ad)) (F0 m 135 ls []) := by
    intro  M H locs ls  hl hP hS hf
    unfold fM_given_135 at hf
    refine lv_iconst (v := 1) hx hb d_M_given_135 rfl ?_
    obtain ⟨z1, hf⟩ := xgd_some hf
    exact xw_zret hx hb hr hlk hP hS z1 (Option.some.inj hf) d_M_given_136
  unfold fM_given at hf
  refine lv_iconst (v := 0) hx hb d_M_given_0 rfl ?_
  refine lv_istore_n (lv' := [(3, .int 0), (0, .ref (ad 0)), (1, .int a1), (2, .int a2)]) hx hb d_M_given_1 rfl hl (by decide) rfl (fun ls hl => ?_)
  refine lv_iconst (v := 0) hx hb d_M_given_2 rfl ?_
  refine lv_istore (lv' := [(4, .int 0), (3, .int 0), (0, .ref (ad 0)), (1, .int a1), (2, .int a2)]) hx hb d_M_given_3 hl (by decide) rfl (fun ls hl => ?_)
  obtain ⟨e5, he5, hk5⟩ := xbd_some hf
  obtain ⟨n5, hq5⟩ := xlp_n he5
  have LH5 : ∀ (n : Nat) (v3 v4 : Int32) (M : Mem) (H : Heap) (locs : List Loc) (ls : Array Slot), lv_has ls 7 [(0, .ref (ad 0)), (1, .int a1), (2, .int a2), (3, .int v3), (4, .int v4)] → va_P G kl (wd SM c3 ad M) H → va_S (adA SM ad) s.heap H locs → xwh (bM_given_5 a1 a2) n (v3, v4, M) = some e5 → W p l e (rm0_ 2 50) s m args below meth c H locs 0 0 (MQ below (QW G kl SM c3 ad (some (.int out.1)) out.2) args s 0 0 (adA SM ad)) (F0 m 5 ls []) := by
    intro n
    induction n with
    | zero =>
      intro v3 v4 M H locs ls hl hP hS hn
      exact xwh_0 hn
    | succ n ih5 =>
      intro v3 v4 M H locs ls hl hP hS hn5
      obtain ⟨o5, hf, hn5⟩ := xwh_s hn5
      have hf : gM_given_5 a1 a2 v3 v4 M = some o5 := hf
      have K129 : ∀ (v3 v4 : Int32) (M : Mem) (H : Heap) (locs : List Loc) (ls : Array Slot), lv_has ls 7 [(0, .ref (ad 0)), (1, .int a1), (2, .int a2), (3, .int v3), (4, .int v4)] → va_P G kl (wd SM c3 ad M) H → va_S (adA SM ad) s.heap H locs → fM_given_129 a1 a2 v3 v4 M = some o5 → W p l e (rm0_ 2 50) s m args below meth c H locs 0 0 (MQ below (QW G kl SM c3 ad (some (.int out.1)) out.2) args s 0 0 (adA SM ad)) (F0 m 129 ls []) := by
        intro v3 v4 M H locs ls  hl hP hS hf
        unfold fM_given_129 at hf
        obtain ⟨x2, hx2, hf⟩ := xlt_some hf
        refine lv_iinc (k := 4) (lv' := [(4, .int x2), (0, .ref (ad 0)), (1, .int a1), (2, .int a2), (3, .int v3)]) hx hb d_M_given_129 hl rfl hx2 (by decide) rfl (fun ls hl => ?_)
        refine lv_goto (tgt := 5) hx hb d_M_given_132 rfl ?_
        exact ih5 v3 x2 M _ _ _ (lv_sub hl [1, 2, 3, 4, 0] rfl) hP hS (xw_again hf hn5)
      unfold gM_given_5 at hf
      refine lv_iload hx hb d_M_given_5 (lv_at hl 4 rfl) ?_
      refine lv_iload_n hx hb d_M_given_7 rfl (lv_at hl 2 rfl) ?_
      refine lv_icmp_ge (tgt := 135) hx hb d_M_given_8 rfl (fun hc => ?_) (fun hc => ?_)
      · have hf := ite_t hc hf
        have he := xw_exit hf hn5
        subst he
        have hf := hk5
        exact K135  M _ _ _  (lv_sub hl [] rfl) hP hS hf
      · have hf := ite_f hc hf
        refine lv_iconst (v := 0) hx hb d_M_given_11 rfl ?_
        refine lv_istore (lv' := [(5, .int 0), (0, .ref (ad 0)), (1, .int a1), (2, .int a2), (3, .int v3), (4, .int v4)]) hx hb d_M_given_12 hl (by decide) rfl (fun ls hl => ?_)
        refine lv_iconst (v := 0) hx hb d_M_given_14 rfl ?_
        refine lv_istore (lv' := [(6, .int 0), (5, .int 0), (0, .ref (ad 0)), (1, .int a1), (2, .int a2), (3, .int v3), (4, .int v4)]) hx hb d_M_given_15 hl (by decide) rfl (fun ls hl => ?_)
        obtain ⟨e17, he17, hk17⟩ := xbd_some hf
        obtain ⟨n17, hq17⟩ := xlp_n he17
        have LH17 : ∀ (n : Nat) (v3 v5 v6 : Int32) (M : Mem) (H : Heap) (locs : List Loc) (ls : Array Slot), lv_has ls 7 [(0, .ref (ad 0)), (1, .int a1), (2, .int a2), (3, .int v3), (4, .int v4), (5, .int v5), (6, .int v6)] → va_P G kl (wd SM c3 ad M) H → va_S (adA SM ad) s.heap H locs → xwh (bM_given_17 a1 a2 v4) n (v3, v5, v6, M) = some e17 → W p l e (rm0_ 2 50) s m args below meth c H locs 0 0 (MQ below (QW G kl SM c3 ad (some (.int out.1)) out.2) args s 0 0 (adA SM ad)) (F0 m 17 ls []) := by
          intro n
          induction n with
          | zero =>
            intro v3 v5 v6 M H locs ls hl hP hS hn
            exact xwh_0 hn
          | succ n ih17 =>
            intro v3 v5 v6 M H locs ls hl hP hS hn17
            obtain ⟨o17, hf, hn17⟩ := xwh_s hn17
            have hf : gM_given_17 a1 a2 v4 v3 v5 v6 M = some o17 := hf
            have K123 : ∀ (v3 v5 v6 : Int32) (M : Mem) (H : Heap) (locs : List Loc) (ls : Array Slot), lv_has ls 7 [(0, .ref (ad 0)), (1, .int a1), (2, .int a2), (3, .int v3), (4, .int v4), (5, .int v5), (6, .int v6)] → va_P G kl (wd SM c3 ad M) H → va_S (adA SM ad) s.heap H locs → fM_given_123 a1 a2 v3 v4 v5 v6 M = some o17 → W p l e (rm0_ 2 50) s m args below meth c H locs 0 0 (MQ below (QW G kl SM c3 ad (some (.int out.1)) out.2) args s 0 0 (adA SM ad)) (F0 m 123 ls []) := by
              intro v3 v5 v6 M H locs ls  hl hP hS hf
              unfold fM_given_123 at hf
              obtain ⟨x3, hx3, hf⟩ := xlt_some hf
              refine lv_iinc (k := 6) (lv' := [(6, .int x3), (0, .ref (ad 0)), (1, .int a1), (2, .int a2), (3, .int v3), (4, .int v4), (5, .int v5)]) hx hb d_M_given_123 hl rfl hx3 (by decide) rfl (fun ls hl => ?_)
              refine lv_goto (tgt := 17) hx hb d_M_given_126 rfl ?_
              exact ih17 v3 v5 x3 M _ _ _ (lv_sub hl [1, 2, 3, 4, 5, 6, 0] rfl) hP hS (xw_again hf hn17)
            have K85 : ∀ (v3 v6 s85_0 : Int32) (M : Mem) (H : Heap) (locs : List Loc) (ls : Array Slot), lv_has ls 7 [(0, .ref (ad 0)), (1, .int a1), (2, .int a2), (3, .int v3), (4, .int v4), (6, .int v6)] → va_P G kl (wd SM c3 ad M) H → va_S (adA SM ad) s.heap H locs → fM_given_85 a1 a2 v3 v4 v6 s85_0 M = some o17 → W p l e (rm0_ 2 50) s m args below meth c H locs 0 0 (MQ below (QW G kl SM c3 ad (some (.int out.1)) out.2) args s 0 0 (adA SM ad)) (F0 m 85 ls [.int s85_0]) := by
              intro v3 v6 s85_0 M H locs ls  hl hP hS hf
              unfold fM_given_85 at hf
              refine lv_istore (lv' := [(5, .int s85_0), (0, .ref (ad 0)), (1, .int a1), (2, .int a2), (3, .int v3), (4, .int v4), (6, .int v6)]) hx hb d_M_given_85 hl (by decide) rfl (fun ls hl => ?_)
              refine lv_iload hx hb d_M_given_87 (lv_at hl 0 rfl) ?_
              refine lv_if_eq (tgt := 123) hx hb d_M_given_89 rfl (fun hc => ?_) (fun hc => ?_)
              · have hf := ite_t hc hf
                exact K123 v3 s85_0 v6 M _ _ _  (lv_sub hl [1, 2, 3, 4, 5, 0, 6] rfl) hP hS hf
              · have hf := ite_f hc hf
                refine lv_iload_n hx hb d_M_given_92 rfl (lv_at hl 4 rfl) ?_
                refine lv_iconst (v := 1) hx hb d_M_given_93 rfl ?_
                refine lv_iload hx hb d_M_given_94 (lv_at hl 6 rfl) ?_
                refine lv_ishl hx hb d_M_given_96 ?_
                refine lv_ior hx hb d_M_given_97 ?_
                obtain ⟨x4, hx4, hf⟩ := xlt_some hf
                refine xr_name hx4 ?_
                refine lv_istore_n (lv' := [(3, .int x4), (5, .int s85_0), (0, .ref (ad 0)), (1, .int a1), (2, .int a2), (4, .int v4), (6, .int v6)]) hx hb d_M_given_98 rfl hl (by decide) rfl (fun ls hl => ?_)
                refine lv_aload_n hx hb d_M_given_99 rfl (lv_at hl 2 rfl) ?_
                refine xr_getr hx hb hT hown hK hP sM_0 rfl inM 22 (by decide) wf_M_71 rfl d_M_given_100 ?_
                refine lv_bipush (v := 40) hx hb d_M_given_103 rfl ?_
                refine lv_iload_n hx hb d_M_given_105 rfl (lv_at hl 3 rfl) ?_
                refine lv_imul hx hb d_M_given_106 ?_
                refine lv_bipush (v := 10) hx hb d_M_given_107 rfl ?_
                refine lv_aload_n hx hb d_M_given_109 rfl (lv_at hl 2 rfl) ?_
                refine xr_getr hx hb hT hown hK hP sM_0 rfl inM 23 (by decide) wf_M_74 rfl d_M_given_110 ?_
                refine lv_iload hx hb d_M_given_113 (lv_at hl 5 rfl) ?_
                obtain ⟨g5, hf⟩ := xgd_some hf
                refine xr_iald hx hb hK hP sM_22 g5 d_M_given_115 ?_
                refine lv_imul hx hb d_M_given_116 ?_
                refine lv_iadd hx hb d_M_given_117 ?_
                refine lv_iload hx hb d_M_given_118 (lv_at hl 6 rfl) ?_
                refine lv_iadd hx hb d_M_given_120 ?_
                refine lv_iconst (v := 1) hx hb d_M_given_121 rfl ?_
                obtain ⟨g6, hf⟩ := xgd_some hf
                obtain ⟨M7, hM7, hf⟩ := xlt_some hf
                refine xr_zast hx hb hd hK hP hS sM_21 g6 d_M_given_122 (fun H locs hP hS => ?_)
                rw [hM7] at hP
                exact K123 x4 s85_0 v6 M7 _ _ _  (lv_sub hl [2, 3, 4, 0, 5, 1, 6] rfl) hP hS hf
            have K84 : ∀ (v3 v6 : Int32) (M : Mem) (H : Heap) (locs : List Loc) (ls : Array Slot), lv_has ls 7 [(0, .ref (ad 0)), (1, .int a1), (2, .int a2), (3, .int v3), (4, .int v4), (6, .int v6)] → va_P G kl (wd SM c3 ad M) H → va_S (adA SM ad) s.heap H locs → fM_given_84 a1 a2 v3 v4 v6 M = some o17 → W p l e (rm0_ 2 50) s m args below meth c H locs 0 0 (MQ below (QW G kl SM c3 ad (some (.int out.1)) out.2) args s 0 0 (adA SM ad)) (F0 m 84 ls []) := by
              intro v3 v6 M H locs ls  hl hP hS hf
              unfold fM_given_84 at hf
              refine lv_iconst (v := 0) hx hb d_M_given_84 rfl ?_
              exact K85 v3 v6 0 M _ _ _  hl hP hS hf
            unfold gM_given_17 at hf
            refine lv_iload hx hb d_M_given_17 (lv_at hl 6 rfl) ?_
            refine lv_bipush (v := 10) hx hb d_M_given_19 rfl ?_
            refine lv_icmp_ge (tgt := 129) hx hb d_M_given_21 rfl (fun hc => ?_) (fun hc => ?_)
            · have hf := ite_t hc hf
              have he := xw_exit hf hn17
              subst he
              have hf := hk17
              exact K129 v3 v4 M _ _ _  (lv_sub hl [0, 1, 2, 3, 4] rfl) hP hS hf
            · have hf := ite_f hc hf
              refine lv_iload hx hb d_M_given_24 (lv_at hl 5 rfl) ?_
              refine lv_if_ne (tgt := 129) hx hb d_M_given_26 rfl (fun hc => ?_) (fun hc => ?_)
              · have hf := ite_f hc hf
                have he := xw_exit hf hn17
                subst he
                have hf := hk17
                exact K129 v3 v4 M _ _ _  (lv_sub hl [0, 1, 2, 3, 4] rfl) hP hS hf
              · have hf := ite_t hc hf
                refine lv_iload_n hx hb d_M_given_29 rfl (lv_at hl 3 rfl) ?_
                refine lv_iload hx hb d_M_given_30 (lv_at hl 6 rfl) ?_
                obtain ⟨r8, hr8, hf⟩ := xbd_some hf
                refine xc_rs (rest := []) F hT hK hP (tM_has l G c3 ad M v3 v6 r8 hr8) wl_M_114 ws_M_has wn_M wc_M_has ck_M_has ⟨rfl, rfl⟩ ⟨by decide, by decide⟩ ⟨Nat.le_refl _, Nat.le_refl _⟩ hl.1 rfl (Nat.le_of_ble_eq_true rfl) d_M_given_32 ?_
                refine lv_if_ne (tgt := 84) hx hb d_M_given_35 rfl (fun hc => ?_) (fun hc => ?_)
                · have hf := ite_f hc hf
                  exact K84 v3 v6 M _ _ _  (lv_sub hl [0, 1, 2, 3, 4, 6] rfl) hP hS hf
                · have hf := ite_t hc hf
                  refine lv_aload_n hx hb d_M_given_38 rfl (lv_at hl 0 rfl) ?_
                  refine lv_iload_n hx hb d_M_given_39 rfl (lv_at hl 1 rfl) ?_
                  refine lv_aload_n hx hb d_M_given_40 rfl (lv_at hl 0 rfl) ?_
                  refine xr_getr hx hb hT hown hK hP sM_0 rfl inM 23 (by decide) wf_M_74 rfl d_M_given_41 ?_
                  refine lv_iload hx hb d_M_given_44 (lv_at hl 4 rfl) ?_
                  obtain ⟨g9, hf⟩ := xgd_some hf
                  refine xr_iald hx hb hK hP sM_22 g9 d_M_given_46 ?_
                  refine lv_iload hx hb d_M_given_47 (lv_at hl 6 rfl) ?_
                  obtain ⟨r10, hr10, hf⟩ := xbd_some hf
                  refine xc_rv (rest := []) F hT hK hP (tM_mayWatch l G c3 ad M a1 (M 22 v4.toNatClampNeg) v6 r10 hr10) sM_0 rfl wl_M_167 wi_M_mayWatch we_M_mayWatch wn_M wc_M_mayWatch ck_M_mayWatch ⟨rfl, rfl⟩ ⟨by decide, by decide⟩ ⟨Nat.le_refl _, Nat.le_refl _⟩ hl.1 rfl (Nat.le_of_ble_eq_true rfl) d_M_given_49 ?_
                  refine lv_if_eq (tgt := 84) hx hb d_M_given_52 rfl (fun hc => ?_) (fun hc => ?_)
                  · have hf := ite_t hc hf
                    exact K84 v3 v6 M _ _ _  (lv_sub hl [0, 1, 2, 3, 4, 6] rfl) hP hS hf
                  · have hf := ite_f hc hf
                    refine lv_aload_n hx hb d_M_given_55 rfl (lv_at hl 0 rfl) ?_
                    refine xr_getr hx hb hT hown hK hP sM_0 rfl inM 24 (by decide) wf_M_78 rfl d_M_given_56 ?_
                    refine lv_sipush (v := 1024) hx hb d_M_given_59 rfl ?_
                    refine lv_iload hx hb d_M_given_62 (lv_at hl 4 rfl) ?_
                    refine lv_imul hx hb d_M_given_64 ?_
                    refine lv_sipush (v := 1024) hx hb d_M_given_65 rfl ?_
                    refine lv_iadd hx hb d_M_given_68 ?_
                    refine lv_iload_n hx hb d_M_given_69 rfl (lv_at hl 3 rfl) ?_
                    refine lv_iconst (v := 1) hx hb d_M_given_70 rfl ?_
                    refine lv_iload hx hb d_M_given_71 (lv_at hl 6 rfl) ?_
                    refine lv_ishl hx hb d_M_given_73 ?_
                    refine lv_ior hx hb d_M_given_74 ?_
                    refine lv_iadd hx hb d_M_given_75 ?_
                    obtain ⟨x11, hx11, hf⟩ := xlt_some hf
                    refine xr_name hx11 ?_
                    obtain ⟨g12, hf⟩ := xgd_some hf
                    refine xr_zald hx hb hK hP sM_23 g12 d_M_given_76 ?_
                    refine lv_if_eq (tgt := 84) hx hb d_M_given_77 rfl (fun hc => ?_) (fun hc => ?_)
                    · have hf := ite_t hc hf
                      exact K84 v3 v6 M _ _ _  (lv_sub hl [0, 1, 2, 3, 4, 6] rfl) hP hS hf
                    · have hf := ite_f hc hf
                      refine lv_iconst (v := 1) hx hb d_M_given_80 rfl ?_
                      refine lv_goto (tgt := 85) hx hb d_M_given_81 rfl ?_
                      exact K85 v3 v6 1 M _ _ _  (lv_sub hl [0, 1, 2, 3, 4, 6] rfl) hP hS hf
        exact LH17 n17 v3 0 0 M _ _ _ (lv_sub hl [2, 3, 4, 5, 6, 1, 0] rfl) hP hS hq17
  exact LH5 n5 0 0 M _ _ _ (lv_sub hl [2, 3, 4, 1, 0] rfl) hP hS hq5
noncomputable def fM_watch_324 (s324_0 : Int32) (M : Mem) : Option (Int32 × Mem) := xgd (s324_0 = 0 ∨ s324_0 = 1) (some (s324_0, M))
noncomputable def fM_watch_323 (M : Mem) : Option (Int32 × Mem) := fM_watch_324 0 M
noncomputable def fM_watch_301 (v1 v2 : Int32) (M : Mem) : Option (Int32 × Mem) := xgd (vp_in 0 41984) (if (M 23 (0 : Int32).toNatClampNeg) = 0 then (fM_watch_323  M) else (xbd (fM_given v1 v2 M) (fun r3 => if r3.1 = 0 then (fM_watch_323  r3.2) else (fM_watch_324 1 r3.2))))
noncomputable def fM_watch_295 (v1 v2 v3 : Int32) (M : Mem) : Option ((Int32 × Mem) ⊕ (Int32 × Mem)) := xlt (v3 + (-1)) (fun x4 => some (.inr (x4, M)))
noncomputable def fM_watch_289 (v1 v2 v3 v4 : Int32) (M : Mem) : Option ((Int32 × Mem) ⊕ (Int32 × Mem)) := xlt (v4 + 1) (fun x5 => some (.inr (x5, M)))
noncomputable def fM_watch_282 (v1 v2 v3 v4 v5 v6 s282_0 s282_1 : Int32) (M : Mem) : Option ((Int32 × Mem) ⊕ (Int32 × Mem)) := xgd (vp_in s282_1 41984) (xlt (up2 M 23 s282_1.toNatClampNeg (vp_nar .boolean s282_0)) (fun M7 => xlt (v6 + 1) (fun x8 => some (.inr (x8, M7)))))
noncomputable def fM_watch_281 (v1 v2 v3 v4 v5 v6 s281_0 : Int32) (M : Mem) : Option ((Int32 × Mem) ⊕ (Int32 × Mem)) := fM_watch_282 v1 v2 v3 v4 v5 v6 0 s281_0 M
noncomputable def fM_watch_277 (v1 v2 v3 v4 v5 v6 s277_0 : Int32) (M : Mem) : Option ((Int32 × Mem) ⊕ (Int32 × Mem)) := fM_watch_282 v1 v2 v3 v4 v5 v6 1 s277_0 M
noncomputable def gM_watch_201 (v1 v2 v3 v4 v5 : Int32) (v6 : Int32) (M : Mem) : Option ((Int32 × Mem) ⊕ (Int32 × Mem)) := if 1024 ≤ v6 then (some (.inl (v6, M))) else (if v5 = 0 then (some (.inl (v6, M))) else (xlt (((1024 * v3) + v6)) (fun x9 => xgd (vp_in x9 41984) (if (M 23 x9.toNatClampNeg) = 0 then (xbd (fM_has v6 v4) (fun r11 => if r11 = 0 then (xlt ((((1024 * v3) + 1024) + (v6 ||| ((1 : Int32) <<< (v4 &&& 31))))) (fun x12 => xgd (vp_in x12 41984) (if (M 23 x12.toNatClampNeg) = 0 then (fM_watch_281 v1 v2 v3 v4 v5 v6 ((1024 * v3) + v6) M) else (fM_watch_277 v1 v2 v3 v4 v5 v6 ((1024 * v3) + v6) M)))) else (fM_watch_281 v1 v2 v3 v4 v5 v6 ((1024 * v3) + v6) M))) else (fM_watch_277 v1 v2 v3 v4 v5 v6 ((1024 * v3) + v6) M)))))
noncomputable def bM_watch_201 (v1 v2 v3 v4 v5 : Int32) : Int32 × Mem → Option ((Int32 × Mem) ⊕ (Int32 × Mem)) := fun st => gM_watch_201 v1 v2 v3 v4 v5 st.1 st.2
noncomputable def gM_watch_176 (v1 v2 v3 : Int32) (v4 : Int32) (M : Mem) : Option ((Int32 × Mem) ⊕ (Int32 × Mem)) := if 10 ≤ v4 then (some (.inl (v4, M))) else (xgd (vp_in v3 41) (xbd (fM_mayWatch v1 (M 22 v3.toNatClampNeg) v4 M) (fun r15 => xbd (xlp (bM_watch_201 v1 v2 v3 v4 r15) (0, M)) (fun e201 => fM_watch_289 v1 v2 v3 v4 e201.2))))
noncomputable def bM_watch_176 (v1 v2 v3 : Int32) : Int32 × Mem → Option ((Int32 × Mem) ⊕ (Int32 × Mem)) := fun st => gM_watch_176 v1 v2 v3 st.1 st.2
noncomputable def fM_watch_173 (v1 v2 v3 : Int32) (M : Mem) : Option ((Int32 × Mem) ⊕ (Int32 × Mem)) := xbd (xlp (bM_watch_176 v1 v2 v3) (0, M)) (fun e176 => fM_watch_295 v1 v2 v3 e176.2)
noncomputable def gM_watch_145 (v1 v2 v3 : Int32) (v4 : Int32) (M : Mem) : Option ((Int32 × Mem) ⊕ (Int32 × Mem)) := if 1024 ≤ v4 then (some (.inl (v4, M))) else (xgd (vp_in ((1024 * v3) + v4) 41984) (xlt (up2 M 23 (((1024 * v3) + v4).toNatClampNeg) (vp_nar .boolean 0)) (fun M36 => xlt (v4 + 1) (fun x37 => some (.inr (x37, M36))))))
noncomputable def bM_watch_145 (v1 v2 v3 : Int32) : Int32 × Mem → Option ((Int32 × Mem) ⊕ (Int32 × Mem)) := fun st => gM_watch_145 v1 v2 v3 st.1 st.2
noncomputable def gM_watch_138 (v1 v2 : Int32) (v3 : Int32) (M : Mem) : Option ((Int32 × Mem) ⊕ (Int32 × Mem)) := if v3 < 0 then (some (.inl (v3, M))) else (xbd (xlp (bM_watch_145 v1 v2 v3) (0, M)) (fun e145 => fM_watch_173 v1 v2 v3 e145.2))
noncomputable def bM_watch_138 (v1 v2 : Int32) : Int32 × Mem → Option ((Int32 × Mem) ⊕ (Int32 × Mem)) := fun st => gM_watch_138 v1 v2 st.1 st.2
noncomputable def fM_watch_134 (v1 v2 : Int32) (M : Mem) : Option (Int32 × Mem) := xlt ((v2 - 1)) (fun x41 => xbd (xlp (bM_watch_138 v1 v2) (x41, M)) (fun e138 => fM_watch_301 v1 v2 e138.2))
noncomputable def gM_watch_108 (v1 v2 : Int32) (v3 : Int32) (M : Mem) : Option ((Int32 × Mem) ⊕ (Int32 × Mem)) := if 1024 ≤ v3 then (some (.inl (v3, M))) else (xgd (vp_in ((1024 * v2) + v3) 41984) (xlt (up2 M 23 (((1024 * v2) + v3).toNatClampNeg) (vp_nar .boolean 1)) (fun M58 => xlt (v3 + 1) (fun x59 => some (.inr (x59, M58))))))
noncomputable def bM_watch_108 (v1 v2 : Int32) : Int32 × Mem → Option ((Int32 × Mem) ⊕ (Int32 × Mem)) := fun st => gM_watch_108 v1 v2 st.1 st.2
noncomputable def fM_watch_98 (v1 v2 : Int32) (M : Mem) : Option (Int32 × Mem) := if v2 ≤ 10 then (xbd (xlp (bM_watch_108 v1 v2) (0, M)) (fun e108 => fM_watch_134 v1 v2 e108.2)) else (xgd ((0 : Int32) = 0 ∨ (0 : Int32) = 1) (some (0, M)))
noncomputable def fM_watch_92 (v1 v2 v3 : Int32) (M : Mem) : Option ((Int32 × Int32 × Mem) ⊕ (Int32 × Int32 × Mem)) := xlt (v3 + 1) (fun x64 => some (.inr (v2, x64, M)))
noncomputable def gM_watch_69 (v1 v3 v4 : Int32) (v2 v5 : Int32) (M : Mem) : Option ((Int32 × Int32 × Mem) ⊕ (Int32 × Int32 × Mem)) := if v4 ≤ v5 then (some (.inl (v2, v5, M))) else (xgd (vp_in v2 41) (xlt (up2 M 22 v2.toNatClampNeg v3) (fun M66 => xlt (v2 + 1) (fun x67 => xlt (v5 + 1) (fun x68 => some (.inr (x67, x68, M66)))))))
noncomputable def bM_watch_69 (v1 v3 v4 : Int32) : Int32 × Int32 × Mem → Option ((Int32 × Int32 × Mem) ⊕ (Int32 × Int32 × Mem)) := fun st => gM_watch_69 v1 v3 v4 st.1 st.2.1 st.2.2
noncomputable def gM_watch_47 (v1 : Int32) (v2 v3 : Int32) (M : Mem) : Option ((Int32 × Int32 × Mem) ⊕ (Int32 × Int32 × Mem)) := if 4 ≤ v3 then (some (.inl (v2, v3, M))) else (xbd (fM_sitting v1 v3 M) (fun r69 => xlt (((r69 + 7) / 8)) (fun x70 => xbd (xlp (bM_watch_69 v1 v3 x70) (v2, 0, M)) (fun e69 => fM_watch_92 v1 e69.1 v3 e69.2.2))))
noncomputable def bM_watch_47 (v1 : Int32) : Int32 × Int32 × Mem → Option ((Int32 × Int32 × Mem) ⊕ (Int32 × Int32 × Mem)) := fun st => gM_watch_47 v1 st.1 st.2.1 st.2.2
noncomputable def fM_watch_43 (v1 : Int32) (M : Mem) : Option (Int32 × Mem) := xbd (xlp (bM_watch_47 v1) (0, 0, M)) (fun e47 => fM_watch_98 v1 e47.1 e47.2.2)
noncomputable def gM_watch_19 (v1 : Int32) (v2 : Int32) (M : Mem) : Option ((Int32 × Mem) ⊕ (Int32 × Mem)) := if ((40 * v1) + 40) ≤ v2 then (some (.inl (v2, M))) else (xgd (vp_in v2 240) (xlt (up2 M 21 v2.toNatClampNeg (vp_nar .boolean 0)) (fun M83 => xlt (v2 + 1) (fun x84 => some (.inr (x84, M83))))))
noncomputable def bM_watch_19 (v1 : Int32) : Int32 × Mem → Option ((Int32 × Mem) ⊕ (Int32 × Mem)) := fun st => gM_watch_19 v1 st.1 st.2
noncomputable def fM_watch (a1 : Int32) (M : Mem) : Option (Int32 × Mem) := xbd (fM_isSession a1) (fun r85 => xbd (fM_goes r85 1 M) (fun r86 => if r86.1 = 0 then (xgd ((0 : Int32) = 0 ∨ (0 : Int32) = 1) (some (0, r86.2))) else (xlt ((40 * a1)) (fun x87 => xbd (xlp (bM_watch_19 a1) (x87, r86.2)) (fun e19 => fM_watch_43 a1 e19.2)))))
set_option maxHeartbeats 4000000 in
set_option maxRecDepth 100000 in
theorem tM_watch (l : Launch) (G : va_G) (c3 : ClassId × ClassId × ClassId) (ad : Nat → Nat) (hd : adI SM ad) (M : Mem) (a1 : Int32) (o1 : Int32) (o2 : Mem) (hf : fM_watch a1 M = some (o1, o2)) : WMet l yM_watch cM_watch 7 (some .boolean) (rm0_ 3 76) G kl SM c3 ad M [.ref (ad 0), .int a1] (some (.int o1)) o2 := by
  generalize hout : (o1, o2) = out at hf
  obtain rfl : out.1 = o1 := by rw [← hout]
  obtain rfl : out.2 = o2 := by rw [← hout]
  clear hout
  refine WMet.of (by decide +kernel) (Nat.le_of_ble_eq_true rfl) (fun p e s m args below meth c ls F hT hK hP hr hlk hl hS => ?_)
  have hx := F.1
  have hb := F.2.1
  have F : CallFix p m c cM_watch 7 s args gw RM := F
  have hown := F.2.2.2.1
  have hl : lv_has ls 7 [(0, .ref (ad 0)), (1, .int a1)] := hl
  revert hP hS
  suffices hall : ∀ (H : Heap) (locs : List Loc), va_P G kl (wd SM c3 ad M) H → va_S (adA SM ad) s.heap H locs → W p l e (rm0_ 3 76) s m args below meth c H locs 0 0 (MQ below (QW G kl SM c3 ad (some (.int out.1)) out.2) args s 0 0 (adA SM ad)) (F0 m 0 ls []) from hall s.heap []
  intro H locs hP hS
  have K324 : ∀ (s324_0 : Int32) (M : Mem) (H : Heap) (locs : List Loc) (ls : Array Slot), lv_has ls 7 [] → va_P G kl (wd SM c3 ad M) H → va_S (adA SM ad) s.heap H locs → fM_watch_324 s324_0 M = some out → W p l e (rm0_ 3 76) s m args below meth c H locs 0 0 (MQ below (QW G kl SM c3 ad (some (.int out.1)) out.2) args s 0 0 (adA SM ad)) (F0 m 324 ls [.int s324_0]) := by
    intro s324_0 M H locs ls  hl hP hS hf
    unfold fM_watch_324 at hf
    obtain ⟨z1, hf⟩ := xgd_some hf
    exact xw_zret hx hb hr hlk hP hS z1 (Option.some.inj hf) d_M_watch_324
  have K323 : ∀ (M : Mem) (H : Heap) (locs : List Loc) (ls : Array Slot), lv_has ls 7 [] → va_P G kl (wd SM c3 ad M) H → va_S (adA SM ad) s.heap H locs → fM_watch_323  M = some out → W p l e (rm0_ 3 76) s m args below meth c H locs 0 0 (MQ below (QW G kl SM c3 ad (some (.int out.1)) out.2) args s 0 0 (adA SM ad)) (F0 m 323 ls []) := by
    intro  M H locs ls  hl hP hS hf
    unfold fM_watch_323 at hf
    refine lv_iconst (v := 0) hx hb d_M_watch_323 rfl ?_
    exact K324 0 M _ _ _  hl hP hS hf
  have K301 : ∀ (v1 v2 : Int32) (M : Mem) (H : Heap) (locs : List Loc) (ls : Array Slot), lv_has ls 7 [(0, .ref (ad 0)), (1, .int v1), (2, .int v2)] → va_P G kl (wd SM c3 ad M) H → va_S (adA SM ad) s.heap H locs → fM_watch_301 v1 v2 M = some out → W p l e (rm0_ 3 76) s m args below meth c H locs 0 0 (MQ below (QW G kl SM c3 ad (some (.int out.1)) out.2) args s 0 0 (adA SM ad)) (F0 m 301 ls []) := by
    intro v1 v2 M H locs ls  hl hP hS hf
    unfold fM_watch_301 at hf
    refine lv_aload_n hx hb d_M_watch_301 rfl (lv_at hl 0 rfl) ?_
    refine xr_getr hx hb hT hown hK hP sM_0 rfl inM 24 (by decide) wf_M_78 rfl d_M_watch_302 ?_
    refine lv_iconst (v := 0) hx hb d_M_watch_305 rfl ?_
    obtain ⟨g2, hf⟩ := xgd_some hf
    refine xr_zald hx hb hK hP sM_23 g2 d_M_watch_306 ?_
    refine lv_if_eq (tgt := 323) hx hb d_M_watch_307 rfl (fun hc => ?_) (fun hc => ?_)
    · have hf := ite_t hc hf
      exact K323  M _ _ _  (lv_sub hl [] rfl) hP hS hf
    · have hf := ite_f hc hf
      refine lv_aload_n hx hb d_M_watch_310 rfl (lv_at hl 0 rfl) ?_
      refine lv_iload_n hx hb d_M_watch_311 rfl (lv_at hl 1 rfl) ?_
      refine lv_iload_n hx hb d_M_watch_312 rfl (lv_at hl 2 rfl) ?_
      obtain ⟨r3, hr3, hf⟩ := xbd_some hf
      refine xc_wv (rest := []) F hT hK hP hS (fun _ h => h) (tM_given l G c3 ad hd M v1 v2 r3.1 r3.2 hr3) sM_0 rfl wl_M_170 wi_M_given we_M_given wn_M wc_M_given ck_M_given ⟨rfl, rfl⟩ ⟨by decide, by decide⟩ ⟨Nat.le_refl _, Nat.le_refl _⟩ hl.1 rfl (Nat.le_of_ble_eq_true rfl) d_M_watch_313 (fun H locs hP hS _ => ?_)
      refine lv_if_eq (tgt := 323) hx hb d_M_watch_316 rfl (fun hc => ?_) (fun hc => ?_)
      · have hf := ite_t hc hf
        exact K323  r3.2 _ _ _  (lv_sub hl [] rfl) hP hS hf
      · have hf := ite_f hc hf
        refine lv_iconst (v := 1) hx hb d_M_watch_319 rfl ?_
        refine lv_goto (tgt := 324) hx hb d_M_watch_320 rfl ?_
        exact K324 1 r3.2 _ _ _  (lv_sub hl [] rfl) hP hS hf
  have K134 : ∀ (v1 v2 : Int32) (M : Mem) (H : Heap) (locs : List Loc) (ls : Array Slot), lv_has ls 7 [(0, .ref (ad 0)), (1, .int v1), (2, .int v2)] → va_P G kl (wd SM c3 ad M) H → va_S (adA SM ad) s.heap H locs → fM_watch_134 v1 v2 M = some out → W p l e (rm0_ 3 76) s m args below meth c H locs 0 0 (MQ below (QW G kl SM c3 ad (some (.int out.1)) out.2) args s 0 0 (adA SM ad)) (F0 m 134 ls []) := by
    intro v1 v2 M H locs ls  hl hP hS hf
    unfold fM_watch_134 at hf
    refine lv_iload_n hx hb d_M_watch_134 rfl (lv_at hl 2 rfl) ?_
    refine lv_iconst (v := 1) hx hb d_M_watch_135 rfl ?_
    refine lv_isub hx hb d_M_watch_136 ?_
    obtain ⟨x4, hx4, hf⟩ := xlt_some hf
    refine xr_name hx4 ?_
    refine lv_istore_n (lv' := [(3, .int x4), (0, .ref (ad 0)), (1, .int v1), (2, .int v2)]) hx hb d_M_watch_137 rfl hl (by decide) rfl (fun ls hl => ?_)
    obtain ⟨e138, he138, hk138⟩ := xbd_some hf
    obtain ⟨n138, hq138⟩ := xlp_n he138
    have LH138 : ∀ (n : Nat) (v3 : Int32) (M : Mem) (H : Heap) (locs : List Loc) (ls : Array Slot), lv_has ls 7 [(0, .ref (ad 0)), (1, .int v1), (2, .int v2), (3, .int v3)] → va_P G kl (wd SM c3 ad M) H → va_S (adA SM ad) s.heap H locs → xwh (bM_watch_138 v1 v2) n (v3, M) = some e138 → W p l e (rm0_ 3 76) s m args below meth c H locs 0 0 (MQ below (QW G kl SM c3 ad (some (.int out.1)) out.2) args s 0 0 (adA SM ad)) (F0 m 138 ls []) := by
      intro n
      induction n with
      | zero =>
        intro v3 M H locs ls hl hP hS hn
        exact xwh_0 hn
      | succ n ih138 =>
        intro v3 M H locs ls hl hP hS hn138
        obtain ⟨o138, hf, hn138⟩ := xwh_s hn138
        have hf : gM_watch_138 v1 v2 v3 M = some o138 := hf
        have K295 : ∀ (v3 : Int32) (M : Mem) (H : Heap) (locs : List Loc) (ls : Array Slot), lv_has ls 7 [(0, .ref (ad 0)), (1, .int v1), (2, .int v2), (3, .int v3)] → va_P G kl (wd SM c3 ad M) H → va_S (adA SM ad) s.heap H locs → fM_watch_295 v1 v2 v3 M = some o138 → W p l e (rm0_ 3 76) s m args below meth c H locs 0 0 (MQ below (QW G kl SM c3 ad (some (.int out.1)) out.2) args s 0 0 (adA SM ad)) (F0 m 295 ls []) := by
          intro v3 M H locs ls  hl hP hS hf
          unfold fM_watch_295 at hf
          obtain ⟨x5, hx5, hf⟩ := xlt_some hf
          refine lv_iinc (k := 3) (lv' := [(3, .int x5), (0, .ref (ad 0)), (1, .int v1), (2, .int v2)]) hx hb d_M_watch_295 hl rfl hx5 (by decide) rfl (fun ls hl => ?_)
          refine lv_goto (tgt := 138) hx hb d_M_watch_298 rfl ?_
          exact ih138 x5 M _ _ _ (lv_sub hl [1, 2, 3, 0] rfl) hP hS (xw_again hf hn138)
        have K173 : ∀ (v3 : Int32) (M : Mem) (H : Heap) (locs : List Loc) (ls : Array Slot), lv_has ls 7 [(0, .ref (ad 0)), (1, .int v1), (2, .int v2), (3, .int v3)] → va_P G kl (wd SM c3 ad M) H → va_S (adA SM ad) s.heap H locs → fM_watch_173 v1 v2 v3 M = some o138 → W p l e (rm0_ 3 76) s m args below meth c H locs 0 0 (MQ below (QW G kl SM c3 ad (some (.int out.1)) out.2) args s 0 0 (adA SM ad)) (F0 m 173 ls []) := by
          intro v3 M H locs ls  hl hP hS hf
          unfold fM_watch_173 at hf
          refine lv_iconst (v := 0) hx hb d_M_watch_173 rfl ?_
          refine lv_istore (lv' := [(4, .int 0), (0, .ref (ad 0)), (1, .int v1), (2, .int v2), (3, .int v3)]) hx hb d_M_watch_174 hl (by decide) rfl (fun ls hl => ?_)
          obtain ⟨e176, he176, hk176⟩ := xbd_some hf
          obtain ⟨n176, hq176⟩ := xlp_n he176
          have LH176 : ∀ (n : Nat) (v4 : Int32) (M : Mem) (H : Heap) (locs : List Loc) (ls : Array Slot), lv_has ls 7 [(0, .ref (ad 0)), (1, .int v1), (2, .int v2), (3, .int v3), (4, .int v4)] → va_P G kl (wd SM c3 ad M) H → va_S (adA SM ad) s.heap H locs → xwh (bM_watch_176 v1 v2 v3) n (v4, M) = some e176 → W p l e (rm0_ 3 76) s m args below meth c H locs 0 0 (MQ below (QW G kl SM c3 ad (some (.int out.1)) out.2) args s 0 0 (adA SM ad)) (F0 m 176 ls []) := by
            intro n
            induction n with
            | zero =>
              intro v4 M H locs ls hl hP hS hn
              exact xwh_0 hn
            | succ n ih176 =>
              intro v4 M H locs ls hl hP hS hn176
              obtain ⟨o176, hf, hn176⟩ := xwh_s hn176
              have hf : gM_watch_176 v1 v2 v3 v4 M = some o176 := hf
              have K289 : ∀ (v4 : Int32) (M : Mem) (H : Heap) (locs : List Loc) (ls : Array Slot), lv_has ls 7 [(0, .ref (ad 0)), (1, .int v1), (2, .int v2), (3, .int v3), (4, .int v4)] → va_P G kl (wd SM c3 ad M) H → va_S (adA SM ad) s.heap H locs → fM_watch_289 v1 v2 v3 v4 M = some o176 → W p l e (rm0_ 3 76) s m args below meth c H locs 0 0 (MQ below (QW G kl SM c3 ad (some (.int out.1)) out.2) args s 0 0 (adA SM ad)) (F0 m 289 ls []) := by
                intro v4 M H locs ls  hl hP hS hf
                unfold fM_watch_289 at hf
                obtain ⟨x6, hx6, hf⟩ := xlt_some hf
                refine lv_iinc (k := 4) (lv' := [(4, .int x6), (0, .ref (ad 0)), (1, .int v1), (2, .int v2), (3, .int v3)]) hx hb d_M_watch_289 hl rfl hx6 (by decide) rfl (fun ls hl => ?_)
                refine lv_goto (tgt := 176) hx hb d_M_watch_292 rfl ?_
                exact ih176 x6 M _ _ _ (lv_sub hl [1, 2, 3, 4, 0] rfl) hP hS (xw_again hf hn176)
              unfold gM_watch_176 at hf
              refine lv_iload hx hb d_M_watch_176 (lv_at hl 4 rfl) ?_
              refine lv_bipush (v := 10) hx hb d_M_watch_178 rfl ?_
              refine lv_icmp_ge (tgt := 295) hx hb d_M_watch_180 rfl (fun hc => ?_) (fun hc => ?_)
              · have hf := ite_t hc hf
                have he := xw_exit hf hn176
                subst he
                have hf := hk176
                exact K295 v3 M _ _ _  (lv_sub hl [0, 1, 2, 3] rfl) hP hS hf
              · have hf := ite_f hc hf
                refine lv_aload_n hx hb d_M_watch_183 rfl (lv_at hl 0 rfl) ?_
                refine lv_iload_n hx hb d_M_watch_184 rfl (lv_at hl 1 rfl) ?_
                refine lv_aload_n hx hb d_M_watch_185 rfl (lv_at hl 0 rfl) ?_
                refine xr_getr hx hb hT hown hK hP sM_0 rfl inM 23 (by decide) wf_M_74 rfl d_M_watch_186 ?_
                refine lv_iload_n hx hb d_M_watch_189 rfl (lv_at hl 3 rfl) ?_
                obtain ⟨g7, hf⟩ := xgd_some hf
                refine xr_iald hx hb hK hP sM_22 g7 d_M_watch_190 ?_
                refine lv_iload hx hb d_M_watch_191 (lv_at hl 4 rfl) ?_
                obtain ⟨r8, hr8, hf⟩ := xbd_some hf
                refine xc_rv (rest := []) F hT hK hP (tM_mayWatch l G c3 ad M v1 (M 22 v3.toNatClampNeg) v4 r8 hr8) sM_0 rfl wl_M_167 wi_M_mayWatch we_M_mayWatch wn_M wc_M_mayWatch ck_M_mayWatch ⟨rfl, rfl⟩ ⟨by decide, by decide⟩ ⟨Nat.le_refl _, Nat.le_refl _⟩ hl.1 rfl (Nat.le_of_ble_eq_true rfl) d_M_watch_193 ?_
                refine lv_istore (lv' := [(5, .int r8), (0, .ref (ad 0)), (1, .int v1), (2, .int v2), (3, .int v3), (4, .int v4)]) hx hb d_M_watch_196 hl (by decide) rfl (fun ls hl => ?_)
                refine lv_iconst (v := 0) hx hb d_M_watch_198 rfl ?_
                refine lv_istore (lv' := [(6, .int 0), (5, .int r8), (0, .ref (ad 0)), (1, .int v1), (2, .int v2), (3, .int v3), (4, .int v4)]) hx hb d_M_watch_199 hl (by decide) rfl (fun ls hl => ?_)
                obtain ⟨e201, he201, hk201⟩ := xbd_some hf
                obtain ⟨n201, hq201⟩ := xlp_n he201
                have LH201 : ∀ (n : Nat) (v6 : Int32) (M : Mem) (H : Heap) (locs : List Loc) (ls : Array Slot), lv_has ls 7 [(0, .ref (ad 0)), (1, .int v1), (2, .int v2), (3, .int v3), (4, .int v4), (5, .int r8), (6, .int v6)] → va_P G kl (wd SM c3 ad M) H → va_S (adA SM ad) s.heap H locs → xwh (bM_watch_201 v1 v2 v3 v4 r8) n (v6, M) = some e201 → W p l e (rm0_ 3 76) s m args below meth c H locs 0 0 (MQ below (QW G kl SM c3 ad (some (.int out.1)) out.2) args s 0 0 (adA SM ad)) (F0 m 201 ls []) := by
                  intro n
                  induction n with
                  | zero =>
                    intro v6 M H locs ls hl hP hS hn
                    exact xwh_0 hn
                  | succ n ih201 =>
                    intro v6 M H locs ls hl hP hS hn201
                    obtain ⟨o201, hf, hn201⟩ := xwh_s hn201
                    have hf : gM_watch_201 v1 v2 v3 v4 r8 v6 M = some o201 := hf
                    have K282 : ∀ (v6 s282_0 s282_1 : Int32) (M : Mem) (H : Heap) (locs : List Loc) (ls : Array Slot), lv_has ls 7 [(0, .ref (ad 0)), (1, .int v1), (2, .int v2), (3, .int v3), (4, .int v4), (5, .int r8), (6, .int v6)] → va_P G kl (wd SM c3 ad M) H → va_S (adA SM ad) s.heap H locs → fM_watch_282 v1 v2 v3 v4 r8 v6 s282_0 s282_1 M = some o201 → W p l e (rm0_ 3 76) s m args below meth c H locs 0 0 (MQ below (QW G kl SM c3 ad (some (.int out.1)) out.2) args s 0 0 (adA SM ad)) (F0 m 282 ls [.int s282_0, .int s282_1, .ref (ad 23)]) := by
                      intro v6 s282_0 s282_1 M H locs ls  hl hP hS hf
                      unfold fM_watch_282 at hf
                      obtain ⟨g9, hf⟩ := xgd_some hf
                      obtain ⟨M10, hM10, hf⟩ := xlt_some hf
                      refine xr_zast hx hb hd hK hP hS sM_23 g9 d_M_watch_282 (fun H locs hP hS => ?_)
                      rw [hM10] at hP
                      obtain ⟨x11, hx11, hf⟩ := xlt_some hf
                      refine lv_iinc (k := 6) (lv' := [(6, .int x11), (0, .ref (ad 0)), (1, .int v1), (2, .int v2), (3, .int v3), (4, .int v4), (5, .int r8)]) hx hb d_M_watch_283 hl rfl hx11 (by decide) rfl (fun ls hl => ?_)
                      refine lv_goto (tgt := 201) hx hb d_M_watch_286 rfl ?_
                      exact ih201 x11 M10 _ _ _ (lv_sub hl [1, 2, 3, 4, 5, 6, 0] rfl) hP hS (xw_again hf hn201)
                    have K281 : ∀ (v6 s281_0 : Int32) (M : Mem) (H : Heap) (locs : List Loc) (ls : Array Slot), lv_has ls 7 [(0, .ref (ad 0)), (1, .int v1), (2, .int v2), (3, .int v3), (4, .int v4), (5, .int r8), (6, .int v6)] → va_P G kl (wd SM c3 ad M) H → va_S (adA SM ad) s.heap H locs → fM_watch_281 v1 v2 v3 v4 r8 v6 s281_0 M = some o201 → W p l e (rm0_ 3 76) s m args below meth c H locs 0 0 (MQ below (QW G kl SM c3 ad (some (.int out.1)) out.2) args s 0 0 (adA SM ad)) (F0 m 281 ls [.int s281_0, .ref (ad 23)]) := by
                      intro v6 s281_0 M H locs ls  hl hP hS hf
                      unfold fM_watch_281 at hf
                      refine lv_iconst (v := 0) hx hb d_M_watch_281 rfl ?_
                      exact K282 v6 0 s281_0 M _ _ _  hl hP hS hf
                    have K277 : ∀ (v6 s277_0 : Int32) (M : Mem) (H : Heap) (locs : List Loc) (ls : Array Slot), lv_has ls 7 [(0, .ref (ad 0)), (1, .int v1), (2, .int v2), (3, .int v3), (4, .int v4), (5, .int r8), (6, .int v6)] → va_P G kl (wd SM c3 ad M) H → va_S (adA SM ad) s.heap H locs → fM_watch_277 v1 v2 v3 v4 r8 v6 s277_0 M = some o201 → W p l e (rm0_ 3 76) s m args below meth c H locs 0 0 (MQ below (QW G kl SM c3 ad (some (.int out.1)) out.2) args s 0 0 (adA SM ad)) (F0 m 277 ls [.int s277_0, .ref (ad 23)]) := by
                      intro v6 s277_0 M H locs ls  hl hP hS hf
                      unfold fM_watch_277 at hf
                      refine lv_iconst (v := 1) hx hb d_M_watch_277 rfl ?_
                      refine lv_goto (tgt := 282) hx hb d_M_watch_278 rfl ?_
                      exact K282 v6 1 s277_0 M _ _ _  hl hP hS hf
                    unfold gM_watch_201 at hf
                    refine lv_iload hx hb d_M_watch_201 (lv_at hl 6 rfl) ?_
                    refine lv_sipush (v := 1024) hx hb d_M_watch_203 rfl ?_
                    refine lv_icmp_ge (tgt := 289) hx hb d_M_watch_206 rfl (fun hc => ?_) (fun hc => ?_)
                    · have hf := ite_t hc hf
                      have he := xw_exit hf hn201
                      subst he
                      have hf := hk201
                      exact K289 v4 M _ _ _  (lv_sub hl [0, 1, 2, 3, 4] rfl) hP hS hf
                    · have hf := ite_f hc hf
                      refine lv_iload hx hb d_M_watch_209 (lv_at hl 5 rfl) ?_
                      refine lv_if_eq (tgt := 289) hx hb d_M_watch_211 rfl (fun hc => ?_) (fun hc => ?_)
                      · have hf := ite_t hc hf
                        have he := xw_exit hf hn201
                        subst he
                        have hf := hk201
                        exact K289 v4 M _ _ _  (lv_sub hl [0, 1, 2, 3, 4] rfl) hP hS hf
                      · have hf := ite_f hc hf
                        refine lv_aload_n hx hb d_M_watch_214 rfl (lv_at hl 0 rfl) ?_
                        refine xr_getr hx hb hT hown hK hP sM_0 rfl inM 24 (by decide) wf_M_78 rfl d_M_watch_215 ?_
                        refine lv_sipush (v := 1024) hx hb d_M_watch_218 rfl ?_
                        refine lv_iload_n hx hb d_M_watch_221 rfl (lv_at hl 3 rfl) ?_
                        refine lv_imul hx hb d_M_watch_222 ?_
                        refine lv_iload hx hb d_M_watch_223 (lv_at hl 6 rfl) ?_
                        refine lv_iadd hx hb d_M_watch_225 ?_
                        refine lv_aload_n hx hb d_M_watch_226 rfl (lv_at hl 0 rfl) ?_
                        refine xr_getr hx hb hT hown hK hP sM_0 rfl inM 24 (by decide) wf_M_78 rfl d_M_watch_227 ?_
                        refine lv_sipush (v := 1024) hx hb d_M_watch_230 rfl ?_
                        refine lv_iload_n hx hb d_M_watch_233 rfl (lv_at hl 3 rfl) ?_
                        refine lv_imul hx hb d_M_watch_234 ?_
                        refine lv_iload hx hb d_M_watch_235 (lv_at hl 6 rfl) ?_
                        refine lv_iadd hx hb d_M_watch_237 ?_
                        obtain ⟨x12, hx12, hf⟩ := xlt_some hf
                        refine xr_name hx12 ?_
                        obtain ⟨g13, hf⟩ := xgd_some hf
                        refine xr_zald hx hb hK hP sM_23 g13 d_M_watch_238 ?_
                        refine lv_if_ne (tgt := 277) hx hb d_M_watch_239 rfl (fun hc => ?_) (fun hc => ?_)
                        · have hf := ite_f hc hf
                          exact K277 v6 ((1024 * v3) + v6) M _ _ _  hl hP hS hf
                        · have hf := ite_t hc hf
                          refine lv_iload hx hb d_M_watch_242 (lv_at hl 6 rfl) ?_
                          refine lv_iload hx hb d_M_watch_244 (lv_at hl 4 rfl) ?_
                          obtain ⟨r14, hr14, hf⟩ := xbd_some hf
                          refine xc_rs (rest := [.int ((1024 * v3) + v6), .ref (ad 23)]) F hT hK hP (tM_has l G c3 ad M v6 v4 r14 hr14) wl_M_114 ws_M_has wn_M wc_M_has ck_M_has ⟨rfl, rfl⟩ ⟨by decide, by decide⟩ ⟨Nat.le_refl _, Nat.le_refl _⟩ hl.1 rfl (Nat.le_of_ble_eq_true rfl) d_M_watch_246 ?_
                          refine lv_if_ne (tgt := 281) hx hb d_M_watch_249 rfl (fun hc => ?_) (fun hc => ?_)
                          · have hf := ite_f hc hf
                            exact K281 v6 ((1024 * v3) + v6) M _ _ _  hl hP hS hf
                          · have hf := ite_t hc hf
                            refine lv_aload_n hx hb d_M_watch_252 rfl (lv_at hl 0 rfl) ?_
                            refine xr_getr hx hb hT hown hK hP sM_0 rfl inM 24 (by decide) wf_M_78 rfl d_M_watch_253 ?_
                            refine lv_sipush (v := 1024) hx hb d_M_watch_256 rfl ?_
                            refine lv_iload_n hx hb d_M_watch_259 rfl (lv_at hl 3 rfl) ?_
                            refine lv_imul hx hb d_M_watch_260 ?_
                            refine lv_sipush (v := 1024) hx hb d_M_watch_261 rfl ?_
                            refine lv_iadd hx hb d_M_watch_264 ?_
                            refine lv_iload hx hb d_M_watch_265 (lv_at hl 6 rfl) ?_
                            refine lv_iconst (v := 1) hx hb d_M_watch_267 rfl ?_
                            refine lv_iload hx hb d_M_watch_268 (lv_at hl 4 rfl) ?_
                            refine lv_ishl hx hb d_M_watch_270 ?_
                            refine lv_ior hx hb d_M_watch_271 ?_
                            refine lv_iadd hx hb d_M_watch_272 ?_
                            obtain ⟨x15, hx15, hf⟩ := xlt_some hf
                            refine xr_name hx15 ?_
                            obtain ⟨g16, hf⟩ := xgd_some hf
                            refine xr_zald hx hb hK hP sM_23 g16 d_M_watch_273 ?_
                            refine lv_if_eq (tgt := 281) hx hb d_M_watch_274 rfl (fun hc => ?_) (fun hc => ?_)
                            · have hf := ite_t hc hf
                              exact K281 v6 ((1024 * v3) + v6) M _ _ _  hl hP hS hf
                            · have hf := ite_f hc hf
                              exact K277 v6 ((1024 * v3) + v6) M _ _ _  hl hP hS hf
                exact LH201 n201 0 M _ _ _ (lv_sub hl [2, 3, 4, 5, 6, 1, 0] rfl) hP hS hq201
          exact LH176 n176 0 M _ _ _ (lv_sub hl [1, 2, 3, 4, 0] rfl) hP hS hq176
        unfold gM_watch_138 at hf
        refine lv_iload_n hx hb d_M_watch_138 rfl (lv_at hl 3 rfl) ?_
        refine lv_if_lt (tgt := 301) hx hb d_M_watch_139 rfl (fun hc => ?_) (fun hc => ?_)
        · have hf := ite_t hc hf
          have he := xw_exit hf hn138
          subst he
          have hf := hk138
          exact K301 v1 v2 M _ _ _  (lv_sub hl [0, 1, 2] rfl) hP hS hf
        · have hf := ite_f hc hf
          refine lv_iconst (v := 0) hx hb d_M_watch_142 rfl ?_
          refine lv_istore (lv' := [(4, .int 0), (0, .ref (ad 0)), (1, .int v1), (2, .int v2), (3, .int v3)]) hx hb d_M_watch_143 hl (by decide) rfl (fun ls hl => ?_)
          obtain ⟨e145, he145, hk145⟩ := xbd_some hf
          obtain ⟨n145, hq145⟩ := xlp_n he145
          have LH145 : ∀ (n : Nat) (v4 : Int32) (M : Mem) (H : Heap) (locs : List Loc) (ls : Array Slot), lv_has ls 7 [(0, .ref (ad 0)), (1, .int v1), (2, .int v2), (3, .int v3), (4, .int v4)] → va_P G kl (wd SM c3 ad M) H → va_S (adA SM ad) s.heap H locs → xwh (bM_watch_145 v1 v2 v3) n (v4, M) = some e145 → W p l e (rm0_ 3 76) s m args below meth c H locs 0 0 (MQ below (QW G kl SM c3 ad (some (.int out.1)) out.2) args s 0 0 (adA SM ad)) (F0 m 145 ls []) := by
            intro n
            induction n with
            | zero =>
              intro v4 M H locs ls hl hP hS hn
              exact xwh_0 hn
            | succ n ih145 =>
              intro v4 M H locs ls hl hP hS hn145
              obtain ⟨o145, hf, hn145⟩ := xwh_s hn145
              have hf : gM_watch_145 v1 v2 v3 v4 M = some o145 := hf
              unfold gM_watch_145 at hf
              refine lv_iload hx hb d_M_watch_145 (lv_at hl 4 rfl) ?_
              refine lv_sipush (v := 1024) hx hb d_M_watch_147 rfl ?_
              refine lv_icmp_ge (tgt := 173) hx hb d_M_watch_150 rfl (fun hc => ?_) (fun hc => ?_)
              · have hf := ite_t hc hf
                have he := xw_exit hf hn145
                subst he
                have hf := hk145
                exact K173 v3 M _ _ _  (lv_sub hl [0, 1, 2, 3] rfl) hP hS hf
              · have hf := ite_f hc hf
                refine lv_aload_n hx hb d_M_watch_153 rfl (lv_at hl 0 rfl) ?_
                refine xr_getr hx hb hT hown hK hP sM_0 rfl inM 24 (by decide) wf_M_78 rfl d_M_watch_154 ?_
                refine lv_sipush (v := 1024) hx hb d_M_watch_157 rfl ?_
                refine lv_iload_n hx hb d_M_watch_160 rfl (lv_at hl 3 rfl) ?_
                refine lv_imul hx hb d_M_watch_161 ?_
                refine lv_iload hx hb d_M_watch_162 (lv_at hl 4 rfl) ?_
                refine lv_iadd hx hb d_M_watch_164 ?_
                refine lv_iconst (v := 0) hx hb d_M_watch_165 rfl ?_
                obtain ⟨g17, hf⟩ := xgd_some hf
                obtain ⟨M18, hM18, hf⟩ := xlt_some hf
                refine xr_zast hx hb hd hK hP hS sM_23 g17 d_M_watch_166 (fun H locs hP hS => ?_)
                rw [hM18] at hP
                obtain ⟨x19, hx19, hf⟩ := xlt_some hf
                refine lv_iinc (k := 4) (lv' := [(4, .int x19), (0, .ref (ad 0)), (1, .int v1), (2, .int v2), (3, .int v3)]) hx hb d_M_watch_167 hl rfl hx19 (by decide) rfl (fun ls hl => ?_)
                refine lv_goto (tgt := 145) hx hb d_M_watch_170 rfl ?_
                exact ih145 x19 M18 _ _ _ (lv_sub hl [1, 2, 3, 4, 0] rfl) hP hS (xw_again hf hn145)
          exact LH145 n145 0 M _ _ _ (lv_sub hl [1, 2, 3, 4, 0] rfl) hP hS hq145
    exact LH138 n138 x4 M _ _ _ (lv_sub hl [1, 2, 3, 0] rfl) hP hS hq138
  have K98 : ∀ (v1 v2 : Int32) (M : Mem) (H : Heap) (locs : List Loc) (ls : Array Slot), lv_has ls 7 [(0, .ref (ad 0)), (1, .int v1), (2, .int v2)] → va_P G kl (wd SM c3 ad M) H → va_S (adA SM ad) s.heap H locs → fM_watch_98 v1 v2 M = some out → W p l e (rm0_ 3 76) s m args below meth c H locs 0 0 (MQ below (QW G kl SM c3 ad (some (.int out.1)) out.2) args s 0 0 (adA SM ad)) (F0 m 98 ls []) := by
    intro v1 v2 M H locs ls  hl hP hS hf
    unfold fM_watch_98 at hf
    refine lv_iload_n hx hb d_M_watch_98 rfl (lv_at hl 2 rfl) ?_
    refine lv_bipush (v := 10) hx hb d_M_watch_99 rfl ?_
    refine lv_icmp_le (tgt := 106) hx hb d_M_watch_101 rfl (fun hc => ?_) (fun hc => ?_)
    · have hf := ite_t hc hf
      refine lv_iconst (v := 0) hx hb d_M_watch_106 rfl ?_
      refine lv_istore_n (lv' := [(3, .int 0), (0, .ref (ad 0)), (1, .int v1), (2, .int v2)]) hx hb d_M_watch_107 rfl hl (by decide) rfl (fun ls hl => ?_)
      obtain ⟨e108, he108, hk108⟩ := xbd_some hf
      obtain ⟨n108, hq108⟩ := xlp_n he108
      have LH108 : ∀ (n : Nat) (v3 : Int32) (M : Mem) (H : Heap) (locs : List Loc) (ls : Array Slot), lv_has ls 7 [(0, .ref (ad 0)), (1, .int v1), (2, .int v2), (3, .int v3)] → va_P G kl (wd SM c3 ad M) H → va_S (adA SM ad) s.heap H locs → xwh (bM_watch_108 v1 v2) n (v3, M) = some e108 → W p l e (rm0_ 3 76) s m args below meth c H locs 0 0 (MQ below (QW G kl SM c3 ad (some (.int out.1)) out.2) args s 0 0 (adA SM ad)) (F0 m 108 ls []) := by
        intro n
        induction n with
        | zero =>
          intro v3 M H locs ls hl hP hS hn
          exact xwh_0 hn
        | succ n ih108 =>
          intro v3 M H locs ls hl hP hS hn108
          obtain ⟨o108, hf, hn108⟩ := xwh_s hn108
          have hf : gM_watch_108 v1 v2 v3 M = some o108 := hf
          unfold gM_watch_108 at hf
          refine lv_iload_n hx hb d_M_watch_108 rfl (lv_at hl 3 rfl) ?_
          refine lv_sipush (v := 1024) hx hb d_M_watch_109 rfl ?_
          refine lv_icmp_ge (tgt := 134) hx hb d_M_watch_112 rfl (fun hc => ?_) (fun hc => ?_)
          · have hf := ite_t hc hf
            have he := xw_exit hf hn108
            subst he
            have hf := hk108
            exact K134 v1 v2 M _ _ _  (lv_sub hl [0, 1, 2] rfl) hP hS hf
          · have hf := ite_f hc hf
            refine lv_aload_n hx hb d_M_watch_115 rfl (lv_at hl 0 rfl) ?_
            refine xr_getr hx hb hT hown hK hP sM_0 rfl inM 24 (by decide) wf_M_78 rfl d_M_watch_116 ?_
            refine lv_sipush (v := 1024) hx hb d_M_watch_119 rfl ?_
            refine lv_iload_n hx hb d_M_watch_122 rfl (lv_at hl 2 rfl) ?_
            refine lv_imul hx hb d_M_watch_123 ?_
            refine lv_iload_n hx hb d_M_watch_124 rfl (lv_at hl 3 rfl) ?_
            refine lv_iadd hx hb d_M_watch_125 ?_
            refine lv_iconst (v := 1) hx hb d_M_watch_126 rfl ?_
            obtain ⟨g20, hf⟩ := xgd_some hf
            obtain ⟨M21, hM21, hf⟩ := xlt_some hf
            refine xr_zast hx hb hd hK hP hS sM_23 g20 d_M_watch_127 (fun H locs hP hS => ?_)
            rw [hM21] at hP
            obtain ⟨x22, hx22, hf⟩ := xlt_some hf
            refine lv_iinc (k := 3) (lv' := [(3, .int x22), (0, .ref (ad 0)), (1, .int v1), (2, .int v2)]) hx hb d_M_watch_128 hl rfl hx22 (by decide) rfl (fun ls hl => ?_)
            refine lv_goto (tgt := 108) hx hb d_M_watch_131 rfl ?_
            exact ih108 x22 M21 _ _ _ (lv_sub hl [1, 2, 3, 0] rfl) hP hS (xw_again hf hn108)
      exact LH108 n108 0 M _ _ _ (lv_sub hl [1, 2, 3, 0] rfl) hP hS hq108
    · have hf := ite_f hc hf
      refine lv_iconst (v := 0) hx hb d_M_watch_104 rfl ?_
      obtain ⟨z23, hf⟩ := xgd_some hf
      exact xw_zret hx hb hr hlk hP hS z23 (Option.some.inj hf) d_M_watch_105
  have K43 : ∀ (v1 : Int32) (M : Mem) (H : Heap) (locs : List Loc) (ls : Array Slot), lv_has ls 7 [(0, .ref (ad 0)), (1, .int v1)] → va_P G kl (wd SM c3 ad M) H → va_S (adA SM ad) s.heap H locs → fM_watch_43 v1 M = some out → W p l e (rm0_ 3 76) s m args below meth c H locs 0 0 (MQ below (QW G kl SM c3 ad (some (.int out.1)) out.2) args s 0 0 (adA SM ad)) (F0 m 43 ls []) := by
    intro v1 M H locs ls  hl hP hS hf
    unfold fM_watch_43 at hf
    refine lv_iconst (v := 0) hx hb d_M_watch_43 rfl ?_
    refine lv_istore_n (lv' := [(2, .int 0), (0, .ref (ad 0)), (1, .int v1)]) hx hb d_M_watch_44 rfl hl (by decide) rfl (fun ls hl => ?_)
    refine lv_iconst (v := 0) hx hb d_M_watch_45 rfl ?_
    refine lv_istore_n (lv' := [(3, .int 0), (2, .int 0), (0, .ref (ad 0)), (1, .int v1)]) hx hb d_M_watch_46 rfl hl (by decide) rfl (fun ls hl => ?_)
    obtain ⟨e47, he47, hk47⟩ := xbd_some hf
    obtain ⟨n47, hq47⟩ := xlp_n he47
    have LH47 : ∀ (n : Nat) (v2 v3 : Int32) (M : Mem) (H : Heap) (locs : List Loc) (ls : Array Slot), lv_has ls 7 [(0, .ref (ad 0)), (1, .int v1), (2, .int v2), (3, .int v3)] → va_P G kl (wd SM c3 ad M) H → va_S (adA SM ad) s.heap H locs → xwh (bM_watch_47 v1) n (v2, v3, M) = some e47 → W p l e (rm0_ 3 76) s m args below meth c H locs 0 0 (MQ below (QW G kl SM c3 ad (some (.int out.1)) out.2) args s 0 0 (adA SM ad)) (F0 m 47 ls []) := by
      intro n
      induction n with
      | zero =>
        intro v2 v3 M H locs ls hl hP hS hn
        exact xwh_0 hn
      | succ n ih47 =>
        intro v2 v3 M H locs ls hl hP hS hn47
        obtain ⟨o47, hf, hn47⟩ := xwh_s hn47
        have hf : gM_watch_47 v1 v2 v3 M = some o47 := hf
        have K92 : ∀ (v2 v3 : Int32) (M : Mem) (H : Heap) (locs : List Loc) (ls : Array Slot), lv_has ls 7 [(0, .ref (ad 0)), (1, .int v1), (2, .int v2), (3, .int v3)] → va_P G kl (wd SM c3 ad M) H → va_S (adA SM ad) s.heap H locs → fM_watch_92 v1 v2 v3 M = some o47 → W p l e (rm0_ 3 76) s m args below meth c H locs 0 0 (MQ below (QW G kl SM c3 ad (some (.int out.1)) out.2) args s 0 0 (adA SM ad)) (F0 m 92 ls []) := by
          intro v2 v3 M H locs ls  hl hP hS hf
          unfold fM_watch_92 at hf
          obtain ⟨x24, hx24, hf⟩ := xlt_some hf
          refine lv_iinc (k := 3) (lv' := [(3, .int x24), (0, .ref (ad 0)), (1, .int v1), (2, .int v2)]) hx hb d_M_watch_92 hl rfl hx24 (by decide) rfl (fun ls hl => ?_)
          refine lv_goto (tgt := 47) hx hb d_M_watch_95 rfl ?_
          exact ih47 v2 x24 M _ _ _ (lv_sub hl [1, 2, 3, 0] rfl) hP hS (xw_again hf hn47)
        unfold gM_watch_47 at hf
        refine lv_iload_n hx hb d_M_watch_47 rfl (lv_at hl 3 rfl) ?_
        refine lv_iconst (v := 4) hx hb d_M_watch_48 rfl ?_
        refine lv_icmp_ge (tgt := 98) hx hb d_M_watch_49 rfl (fun hc => ?_) (fun hc => ?_)
        · have hf := ite_t hc hf
          have he := xw_exit hf hn47
          subst he
          have hf := hk47
          exact K98 v1 v2 M _ _ _  (lv_sub hl [0, 1, 2] rfl) hP hS hf
        · have hf := ite_f hc hf
          refine lv_aload_n hx hb d_M_watch_52 rfl (lv_at hl 0 rfl) ?_
          refine lv_iload_n hx hb d_M_watch_53 rfl (lv_at hl 1 rfl) ?_
          refine lv_iload_n hx hb d_M_watch_54 rfl (lv_at hl 3 rfl) ?_
          obtain ⟨r25, hr25, hf⟩ := xbd_some hf
          refine xc_rv (rest := []) F hT hK hP (tM_sitting l G c3 ad M v1 v3 r25 hr25) sM_0 rfl wl_M_164 wi_M_sitting we_M_sitting wn_M wc_M_sitting ck_M_sitting ⟨rfl, rfl⟩ ⟨by decide, by decide⟩ ⟨Nat.le_refl _, Nat.le_refl _⟩ hl.1 rfl (Nat.le_of_ble_eq_true rfl) d_M_watch_55 ?_
          refine lv_bipush (v := 7) hx hb d_M_watch_58 rfl ?_
          refine lv_iadd hx hb d_M_watch_60 ?_
          refine lv_bipush (v := 8) hx hb d_M_watch_61 rfl ?_
          refine lv_idiv hx hb d_M_watch_63 (by decide) ?_
          obtain ⟨x26, hx26, hf⟩ := xlt_some hf
          refine xr_name hx26 ?_
          refine lv_istore (lv' := [(4, .int x26), (0, .ref (ad 0)), (1, .int v1), (2, .int v2), (3, .int v3)]) hx hb d_M_watch_64 hl (by decide) rfl (fun ls hl => ?_)
          refine lv_iconst (v := 0) hx hb d_M_watch_66 rfl ?_
          refine lv_istore (lv' := [(5, .int 0), (4, .int x26), (0, .ref (ad 0)), (1, .int v1), (2, .int v2), (3, .int v3)]) hx hb d_M_watch_67 hl (by decide) rfl (fun ls hl => ?_)
          obtain ⟨e69, he69, hk69⟩ := xbd_some hf
          obtain ⟨n69, hq69⟩ := xlp_n he69
          have LH69 : ∀ (n : Nat) (v2 v5 : Int32) (M : Mem) (H : Heap) (locs : List Loc) (ls : Array Slot), lv_has ls 7 [(0, .ref (ad 0)), (1, .int v1), (2, .int v2), (3, .int v3), (4, .int x26), (5, .int v5)] → va_P G kl (wd SM c3 ad M) H → va_S (adA SM ad) s.heap H locs → xwh (bM_watch_69 v1 v3 x26) n (v2, v5, M) = some e69 → W p l e (rm0_ 3 76) s m args below meth c H locs 0 0 (MQ below (QW G kl SM c3 ad (some (.int out.1)) out.2) args s 0 0 (adA SM ad)) (F0 m 69 ls []) := by
            intro n
            induction n with
            | zero =>
              intro v2 v5 M H locs ls hl hP hS hn
              exact xwh_0 hn
            | succ n ih69 =>
              intro v2 v5 M H locs ls hl hP hS hn69
              obtain ⟨o69, hf, hn69⟩ := xwh_s hn69
              have hf : gM_watch_69 v1 v3 x26 v2 v5 M = some o69 := hf
              unfold gM_watch_69 at hf
              refine lv_iload hx hb d_M_watch_69 (lv_at hl 5 rfl) ?_
              refine lv_iload hx hb d_M_watch_71 (lv_at hl 4 rfl) ?_
              refine lv_icmp_ge (tgt := 92) hx hb d_M_watch_73 rfl (fun hc => ?_) (fun hc => ?_)
              · have hf := ite_t hc hf
                have he := xw_exit hf hn69
                subst he
                have hf := hk69
                exact K92 v2 v3 M _ _ _  (lv_sub hl [0, 1, 2, 3] rfl) hP hS hf
              · have hf := ite_f hc hf
                refine lv_aload_n hx hb d_M_watch_76 rfl (lv_at hl 0 rfl) ?_
                refine xr_getr hx hb hT hown hK hP sM_0 rfl inM 23 (by decide) wf_M_74 rfl d_M_watch_77 ?_
                refine lv_iload_n hx hb d_M_watch_80 rfl (lv_at hl 2 rfl) ?_
                refine lv_iload_n hx hb d_M_watch_81 rfl (lv_at hl 3 rfl) ?_
                obtain ⟨g27, hf⟩ := xgd_some hf
                obtain ⟨M28, hM28, hf⟩ := xlt_some hf
                refine xr_iast hx hb hd hK hP hS sM_22 g27 d_M_watch_82 (fun H locs hP hS => ?_)
                rw [hM28] at hP
                obtain ⟨x29, hx29, hf⟩ := xlt_some hf
                refine lv_iinc (k := 2) (lv' := [(2, .int x29), (0, .ref (ad 0)), (1, .int v1), (3, .int v3), (4, .int x26), (5, .int v5)]) hx hb d_M_watch_83 hl rfl hx29 (by decide) rfl (fun ls hl => ?_)
                obtain ⟨x30, hx30, hf⟩ := xlt_some hf
                refine lv_iinc (k := 5) (lv' := [(5, .int x30), (2, .int x29), (0, .ref (ad 0)), (1, .int v1), (3, .int v3), (4, .int x26)]) hx hb d_M_watch_86 hl rfl hx30 (by decide) rfl (fun ls hl => ?_)
                refine lv_goto (tgt := 69) hx hb d_M_watch_89 rfl ?_
                exact ih69 x29 x30 M28 _ _ _ (lv_sub hl [2, 3, 1, 4, 5, 0] rfl) hP hS (xw_again hf hn69)
          exact LH69 n69 v2 0 M _ _ _ (lv_sub hl [2, 3, 4, 5, 1, 0] rfl) hP hS hq69
    exact LH47 n47 0 0 M _ _ _ (lv_sub hl [2, 3, 1, 0] rfl) hP hS hq47
  unfold fM_watch at hf
  refine lv_aload_n hx hb d_M_watch_0 rfl (lv_at hl 0 rfl) ?_
  refine lv_iload_n hx hb d_M_watch_1 rfl (lv_at hl 1 rfl) ?_
  obtain ⟨r31, hr31, hf⟩ := xbd_some hf
  refine xc_rs (rest := [.ref (ad 0)]) F hT hK hP (tM_isSession l G c3 ad M a1 r31 hr31) wl_M_104 ws_M_isSession wn_M wc_M_isSession ck_M_isSession ⟨rfl, rfl⟩ ⟨by decide, by decide⟩ ⟨Nat.le_refl _, Nat.le_refl _⟩ hl.1 rfl (Nat.le_of_ble_eq_true rfl) d_M_watch_2 ?_
  refine lv_iconst (v := 1) hx hb d_M_watch_5 rfl ?_
  obtain ⟨r32, hr32, hf⟩ := xbd_some hf
  refine xc_wv (rest := []) F hT hK hP hS (fun _ h => h) (tM_goes l G c3 ad hd M r31 1 r32.1 r32.2 hr32) sM_0 rfl wl_M_97 wi_M_goes we_M_goes wn_M wc_M_goes ck_M_goes ⟨rfl, rfl⟩ ⟨by decide, by decide⟩ ⟨Nat.le_refl _, Nat.le_refl _⟩ hl.1 rfl (Nat.le_of_ble_eq_true rfl) d_M_watch_6 (fun H locs hP hS _ => ?_)
  refine lv_if_ne (tgt := 14) hx hb d_M_watch_9 rfl (fun hc => ?_) (fun hc => ?_)
  · have hf := ite_f hc hf
    refine lv_bipush (v := 40) hx hb d_M_watch_14 rfl ?_
    refine lv_iload_n hx hb d_M_watch_16 rfl (lv_at hl 1 rfl) ?_
    refine lv_imul hx hb d_M_watch_17 ?_
    obtain ⟨x33, hx33, hf⟩ := xlt_some hf
    refine xr_name hx33 ?_
    refine lv_istore_n (lv' := [(2, .int x33), (0, .ref (ad 0)), (1, .int a1)]) hx hb d_M_watch_18 rfl hl (by decide) rfl (fun ls hl => ?_)
    obtain ⟨e19, he19, hk19⟩ := xbd_some hf
    obtain ⟨n19, hq19⟩ := xlp_n he19
    have LH19 : ∀ (n : Nat) (v2 : Int32) (M : Mem) (H : Heap) (locs : List Loc) (ls : Array Slot), lv_has ls 7 [(0, .ref (ad 0)), (1, .int a1), (2, .int v2)] → va_P G kl (wd SM c3 ad M) H → va_S (adA SM ad) s.heap H locs → xwh (bM_watch_19 a1) n (v2, M) = some e19 → W p l e (rm0_ 3 76) s m args below meth c H locs 0 0 (MQ below (QW G kl SM c3 ad (some (.int out.1)) out.2) args s 0 0 (adA SM ad)) (F0 m 19 ls []) := by
      intro n
      induction n with
      | zero =>
        intro v2 M H locs ls hl hP hS hn
        exact xwh_0 hn
      | succ n ih19 =>
        intro v2 M H locs ls hl hP hS hn19
        obtain ⟨o19, hf, hn19⟩ := xwh_s hn19
        have hf : gM_watch_19 a1 v2 M = some o19 := hf
        unfold gM_watch_19 at hf
        refine lv_iload_n hx hb d_M_watch_19 rfl (lv_at hl 2 rfl) ?_
        refine lv_bipush (v := 40) hx hb d_M_watch_20 rfl ?_
        refine lv_iload_n hx hb d_M_watch_22 rfl (lv_at hl 1 rfl) ?_
        refine lv_imul hx hb d_M_watch_23 ?_
        refine lv_bipush (v := 40) hx hb d_M_watch_24 rfl ?_
        refine lv_iadd hx hb d_M_watch_26 ?_
        refine lv_icmp_ge (tgt := 43) hx hb d_M_watch_27 rfl (fun hc => ?_) (fun hc => ?_)
        · have hf := ite_t hc hf
          have he := xw_exit hf hn19
          subst he
          have hf := hk19
          exact K43 a1 M _ _ _  (lv_sub hl [0, 1] rfl) hP hS hf
        · have hf := ite_f hc hf
          refine lv_aload_n hx hb d_M_watch_30 rfl (lv_at hl 0 rfl) ?_
          refine xr_getr hx hb hT hown hK hP sM_0 rfl inM 22 (by decide) wf_M_71 rfl d_M_watch_31 ?_
          refine lv_iload_n hx hb d_M_watch_34 rfl (lv_at hl 2 rfl) ?_
          refine lv_iconst (v := 0) hx hb d_M_watch_35 rfl ?_
          obtain ⟨g34, hf⟩ := xgd_some hf
          obtain ⟨M35, hM35, hf⟩ := xlt_some hf
          refine xr_zast hx hb hd hK hP hS sM_21 g34 d_M_watch_36 (fun H locs hP hS => ?_)
          rw [hM35] at hP
          obtain ⟨x36, hx36, hf⟩ := xlt_some hf
          refine lv_iinc (k := 2) (lv' := [(2, .int x36), (0, .ref (ad 0)), (1, .int a1)]) hx hb d_M_watch_37 hl rfl hx36 (by decide) rfl (fun ls hl => ?_)
          refine lv_goto (tgt := 19) hx hb d_M_watch_40 rfl ?_
          exact ih19 x36 M35 _ _ _ (lv_sub hl [1, 2, 0] rfl) hP hS (xw_again hf hn19)
    exact LH19 n19 x33 r32.2 _ _ _ (lv_sub hl [1, 2, 0] rfl) hP hS hq19
  · have hf := ite_t hc hf
    refine lv_iconst (v := 0) hx hb d_M_watch_12 rfl ?_
    obtain ⟨z37, hf⟩ := xgd_some hf
    exact xw_zret hx hb hr hlk hP hS z37 (Option.some.inj hf) d_M_watch_13
noncomputable def fM_watcher_84 (M : Mem) : Option (Int32 × Mem) := some ((-1), M)
noncomputable def fM_watcher_78 (v1 v2 v3 v4 v5 : Int32) (M : Mem) : Option (((Int32 × Mem) ⊕ (Int32 × Int32)) ⊕ (Int32 × Int32)) := xlt (v5 + 1) (fun x1 => some (.inr (v4, x1)))
noncomputable def gM_watcher_39 (v1 v2 v3 : Int32) (M : Mem) (v4 v5 : Int32) : Option (((Int32 × Mem) ⊕ (Int32 × Int32)) ⊕ (Int32 × Int32)) := if 10 ≤ v5 then (some (.inl (.inr (v4, v5)))) else (xlt ((((40 * v1) + (10 * v2)) + v5)) (fun x2 => xgd (vp_in x2 240) (if (M 21 x2.toNatClampNeg) = 0 then (fM_watcher_78 v1 v2 v3 v4 v5 M) else (if v4 = v3 then (some (.inl (.inl (v5, M)))) else (xlt (v4 + 1) (fun x4 => fM_watcher_78 v1 v2 v3 x4 v5 M))))))
noncomputable def bM_watcher_39 (v1 v2 v3 : Int32) (M : Mem) : Int32 × Int32 → Option (((Int32 × Mem) ⊕ (Int32 × Int32)) ⊕ (Int32 × Int32)) := fun st => gM_watcher_39 v1 v2 v3 M st.1 st.2
noncomputable def fM_watcher_24 (v1 v2 v3 s24_0 : Int32) (M : Mem) : Option (Int32 × Mem) := xbd (fM_goes s24_0 1 M) (fun r5 => if r5.1 = 0 then (some (0, r5.2)) else (xbd (xlp (bM_watcher_39 v1 v2 v3 r5.2) (0, 0)) (fun e39 => Sum.elim (fun r39 => some r39) (fun t39 => fM_watcher_84  r5.2) e39)))
noncomputable def fM_watcher_23 (v1 v2 v3 : Int32) (M : Mem) : Option (Int32 × Mem) := fM_watcher_24 v1 v2 v3 0 M
noncomputable def fM_watcher (a1 a2 a3 : Int32) (M : Mem) : Option (Int32 × Mem) := xbd (fM_isSession a1) (fun r10 => if r10 = 0 then (fM_watcher_23 a1 a2 a3 M) else (xbd (fM_isRoom a2) (fun r11 => if r11 = 0 then (fM_watcher_23 a1 a2 a3 M) else (if a3 < 0 then (fM_watcher_23 a1 a2 a3 M) else (fM_watcher_24 a1 a2 a3 1 M)))))
set_option maxHeartbeats 4000000 in
set_option maxRecDepth 100000 in
theorem tM_watcher (l : Launch) (G : va_G) (c3 : ClassId × ClassId × ClassId) (ad : Nat → Nat) (hd : adI SM ad) (M : Mem) (a1 a2 a3 : Int32) (o1 : Int32) (o2 : Mem) (hf : fM_watcher a1 a2 a3 M = some (o1, o2)) : WMet l yM_watcher cM_watcher 6 (some .int) (rm0_ 1 22) G kl SM c3 ad M [.ref (ad 0), .int a1, .int a2, .int a3] (some (.int o1)) o2 := by
  generalize hout : (o1, o2) = out at hf
  obtain rfl : out.1 = o1 := by rw [← hout]
  obtain rfl : out.2 = o2 := by rw [← hout]
  clear hout
  refine WMet.of (by decide +kernel) (Nat.le_of_ble_eq_true rfl) (fun p e s m args below meth c ls F hT hK hP hr hlk hl hS => ?_)
  have hx := F.1
  have hb := F.2.1
  have F : CallFix p m c cM_watcher 6 s args gw RM := F
  have hown := F.2.2.2.1
  have hl : lv_has ls 6 [(0, .ref (ad 0)), (1, .int a1), (2, .int a2), (3, .int a3)] := hl
  revert hP hS
  suffices hall : ∀ (H : Heap) (locs : List Loc), va_P G kl (wd SM c3 ad M) H → va_S (adA SM ad) s.heap H locs → W p l e (rm0_ 1 22) s m args below meth c H locs 0 0 (MQ below (QW G kl SM c3 ad (some (.int out.1)) out.2) args s 0 0 (adA SM ad)) (F0 m 0 ls []) from hall s.heap []
  intro H locs hP hS
  have K84 : ∀ (M : Mem) (H : Heap) (locs : List Loc) (ls : Array Slot), lv_has ls 6 [] → va_P G kl (wd SM c3 ad M) H → va_S (adA SM ad) s.heap H locs → fM_watcher_84  M = some out → W p l e (rm0_ 1 22) s m args below meth c H locs 0 0 (MQ below (QW G kl SM c3 ad (some (.int out.1)) out.2) args s 0 0 (adA SM ad)) (F0 m 84 ls []) := by
    intro  M H locs ls  hl hP hS hf
    unfold fM_watcher_84 at hf
    refine lv_iconst (v := (-1)) hx hb d_M_watcher_84 rfl ?_
    exact xw_iret hx hb hr hlk hP hS (Option.some.inj hf) d_M_watcher_85
  have K24 : ∀ (v1 v2 v3 s24_0 : Int32) (M : Mem) (H : Heap) (locs : List Loc) (ls : Array Slot), lv_has ls 6 [(0, .ref (ad 0)), (1, .int v1), (2, .int v2), (3, .int v3)] → va_P G kl (wd SM c3 ad M) H → va_S (adA SM ad) s.heap H locs → fM_watcher_24 v1 v2 v3 s24_0 M = some out → W p l e (rm0_ 1 22) s m args below meth c H locs 0 0 (MQ below (QW G kl SM c3 ad (some (.int out.1)) out.2) args s 0 0 (adA SM ad)) (F0 m 24 ls [.int s24_0, .ref (ad 0)]) := by
    intro v1 v2 v3 s24_0 M H locs ls  hl hP hS hf
    unfold fM_watcher_24 at hf
    refine lv_iconst (v := 1) hx hb d_M_watcher_24 rfl ?_
    obtain ⟨r1, hr1, hf⟩ := xbd_some hf
    refine xc_wv (rest := []) F hT hK hP hS (fun _ h => h) (tM_goes l G c3 ad hd M s24_0 1 r1.1 r1.2 hr1) sM_0 rfl wl_M_97 wi_M_goes we_M_goes wn_M wc_M_goes ck_M_goes ⟨rfl, rfl⟩ ⟨by decide, by decide⟩ ⟨Nat.le_refl _, Nat.le_refl _⟩ hl.1 rfl (Nat.le_of_ble_eq_true rfl) d_M_watcher_25 (fun H locs hP hS _ => ?_)
    refine lv_if_ne (tgt := 33) hx hb d_M_watcher_28 rfl (fun hc => ?_) (fun hc => ?_)
    · have hf := ite_f hc hf
      refine lv_iconst (v := 0) hx hb d_M_watcher_33 rfl ?_
      refine lv_istore (lv' := [(4, .int 0), (0, .ref (ad 0)), (1, .int v1), (2, .int v2), (3, .int v3)]) hx hb d_M_watcher_34 hl (by decide) rfl (fun ls hl => ?_)
      refine lv_iconst (v := 0) hx hb d_M_watcher_36 rfl ?_
      refine lv_istore (lv' := [(5, .int 0), (4, .int 0), (0, .ref (ad 0)), (1, .int v1), (2, .int v2), (3, .int v3)]) hx hb d_M_watcher_37 hl (by decide) rfl (fun ls hl => ?_)
      obtain ⟨e39, he39, hk39⟩ := xbd_some hf
      obtain ⟨n39, hq39⟩ := xlp_n he39
      have LH39 : ∀ (n : Nat) (v4 v5 : Int32) (ls : Array Slot), lv_has ls 6 [(0, .ref (ad 0)), (1, .int v1), (2, .int v2), (3, .int v3), (4, .int v4), (5, .int v5)] → xwh (bM_watcher_39 v1 v2 v3 r1.2) n (v4, v5) = some e39 → W p l e (rm0_ 1 22) s m args below meth c H locs 0 0 (MQ below (QW G kl SM c3 ad (some (.int out.1)) out.2) args s 0 0 (adA SM ad)) (F0 m 39 ls []) := by
        intro n
        induction n with
        | zero =>
          intro v4 v5 ls hl hn
          exact xwh_0 hn
        | succ n ih39 =>
          intro v4 v5 ls hl hn39
          obtain ⟨o39, hf, hn39⟩ := xwh_s hn39
          have hf : gM_watcher_39 v1 v2 v3 r1.2 v4 v5 = some o39 := hf
          have K78 : ∀ (v4 v5 : Int32) (ls : Array Slot), lv_has ls 6 [(0, .ref (ad 0)), (1, .int v1), (2, .int v2), (3, .int v3), (4, .int v4), (5, .int v5)] → fM_watcher_78 v1 v2 v3 v4 v5 r1.2 = some o39 → W p l e (rm0_ 1 22) s m args below meth c H locs 0 0 (MQ below (QW G kl SM c3 ad (some (.int out.1)) out.2) args s 0 0 (adA SM ad)) (F0 m 78 ls []) := by
            intro v4 v5 ls  hl hf
            unfold fM_watcher_78 at hf
            obtain ⟨x2, hx2, hf⟩ := xlt_some hf
            refine lv_iinc (k := 5) (lv' := [(5, .int x2), (0, .ref (ad 0)), (1, .int v1), (2, .int v2), (3, .int v3), (4, .int v4)]) hx hb d_M_watcher_78 hl rfl hx2 (by decide) rfl (fun ls hl => ?_)
            refine lv_goto (tgt := 39) hx hb d_M_watcher_81 rfl ?_
            exact ih39 v4 x2 _ (lv_sub hl [1, 2, 3, 4, 5, 0] rfl) (xw_again hf hn39)
          unfold gM_watcher_39 at hf
          refine lv_iload hx hb d_M_watcher_39 (lv_at hl 5 rfl) ?_
          refine lv_bipush (v := 10) hx hb d_M_watcher_41 rfl ?_
          refine lv_icmp_ge (tgt := 84) hx hb d_M_watcher_43 rfl (fun hc => ?_) (fun hc => ?_)
          · have hf := ite_t hc hf
            have he := xw_exit hf hn39
            subst he
            have hf := hk39
            exact K84  r1.2 _ _ _  (lv_sub hl [] rfl) hP hS hf
          · have hf := ite_f hc hf
            refine lv_aload_n hx hb d_M_watcher_46 rfl (lv_at hl 0 rfl) ?_
            refine xr_getr hx hb hT hown hK hP sM_0 rfl inM 22 (by decide) wf_M_71 rfl d_M_watcher_47 ?_
            refine lv_bipush (v := 40) hx hb d_M_watcher_50 rfl ?_
            refine lv_iload_n hx hb d_M_watcher_52 rfl (lv_at hl 1 rfl) ?_
            refine lv_imul hx hb d_M_watcher_53 ?_
            refine lv_bipush (v := 10) hx hb d_M_watcher_54 rfl ?_
            refine lv_iload_n hx hb d_M_watcher_56 rfl (lv_at hl 2 rfl) ?_
            refine lv_imul hx hb d_M_watcher_57 ?_
            refine lv_iadd hx hb d_M_watcher_58 ?_
            refine lv_iload hx hb d_M_watcher_59 (lv_at hl 5 rfl) ?_
            refine lv_iadd hx hb d_M_watcher_61 ?_
            obtain ⟨x3, hx3, hf⟩ := xlt_some hf
            refine xr_name hx3 ?_
            obtain ⟨g4, hf⟩ := xgd_some hf
            refine xr_zald hx hb hK hP sM_21 g4 d_M_watcher_62 ?_
            refine lv_if_eq (tgt := 78) hx hb d_M_watcher_63 rfl (fun hc => ?_) (fun hc => ?_)
            · have hf := ite_t hc hf
              exact K78 v4 v5 _  hl hf
            · have hf := ite_f hc hf
              refine lv_iload hx hb d_M_watcher_66 (lv_at hl 4 rfl) ?_
              refine lv_iload_n hx hb d_M_watcher_68 rfl (lv_at hl 3 rfl) ?_
              refine lv_icmp_ne (tgt := 75) hx hb d_M_watcher_69 rfl (fun hc => ?_) (fun hc => ?_)
              · have hf := ite_f hc hf
                obtain ⟨x5, hx5, hf⟩ := xlt_some hf
                refine lv_iinc (k := 4) (lv' := [(4, .int x5), (0, .ref (ad 0)), (1, .int v1), (2, .int v2), (3, .int v3), (5, .int v5)]) hx hb d_M_watcher_75 hl rfl hx5 (by decide) rfl (fun ls hl => ?_)
                exact K78 x5 v5 _  (lv_sub hl [1, 2, 3, 4, 0, 5] rfl) hf
              · have hf := ite_t hc hf
                refine lv_iload hx hb d_M_watcher_72 (lv_at hl 5 rfl) ?_
                have he := xw_exit hf hn39
                subst he
                have hf := hk39
                exact xw_iret hx hb hr hlk hP hS (Option.some.inj hf) d_M_watcher_74
      exact LH39 n39 0 0 _ (lv_sub hl [2, 3, 4, 5, 1, 0] rfl) hq39
    · have hf := ite_t hc hf
      refine lv_iconst (v := 0) hx hb d_M_watcher_31 rfl ?_
      exact xw_iret hx hb hr hlk hP hS (Option.some.inj hf) d_M_watcher_32
  have K23 : ∀ (v1 v2 v3 : Int32) (M : Mem) (H : Heap) (locs : List Loc) (ls : Array Slot), lv_has ls 6 [(0, .ref (ad 0)), (1, .int v1), (2, .int v2), (3, .int v3)] → va_P G kl (wd SM c3 ad M) H → va_S (adA SM ad) s.heap H locs → fM_watcher_23 v1 v2 v3 M = some out → W p l e (rm0_ 1 22) s m args below meth c H locs 0 0 (MQ below (QW G kl SM c3 ad (some (.int out.1)) out.2) args s 0 0 (adA SM ad)) (F0 m 23 ls [.ref (ad 0)]) := by
    intro v1 v2 v3 M H locs ls  hl hP hS hf
    unfold fM_watcher_23 at hf
    refine lv_iconst (v := 0) hx hb d_M_watcher_23 rfl ?_
    exact K24 v1 v2 v3 0 M _ _ _  hl hP hS hf
  unfold fM_watcher at hf
  refine lv_aload_n hx hb d_M_watcher_0 rfl (lv_at hl 0 rfl) ?_
  refine lv_iload_n hx hb d_M_watcher_1 rfl (lv_at hl 1 rfl) ?_
  obtain ⟨r6, hr6, hf⟩ := xbd_some hf
  refine xc_rs (rest := [.ref (ad 0)]) F hT hK hP (tM_isSession l G c3 ad M a1 r6 hr6) wl_M_104 ws_M_isSession wn_M wc_M_isSession ck_M_isSession ⟨rfl, rfl⟩ ⟨by decide, by decide⟩ ⟨Nat.le_refl _, Nat.le_refl _⟩ hl.1 rfl (Nat.le_of_ble_eq_true rfl) d_M_watcher_2 ?_
  refine lv_if_eq (tgt := 23) hx hb d_M_watcher_5 rfl (fun hc => ?_) (fun hc => ?_)
  · have hf := ite_t hc hf
    exact K23 a1 a2 a3 M _ _ _  hl hP hS hf
  · have hf := ite_f hc hf
    refine lv_iload_n hx hb d_M_watcher_8 rfl (lv_at hl 2 rfl) ?_
    obtain ⟨r7, hr7, hf⟩ := xbd_some hf
    refine xc_rs (rest := [.ref (ad 0)]) F hT hK hP (tM_isRoom l G c3 ad M a2 r7 hr7) wl_M_138 ws_M_isRoom wn_M wc_M_isRoom ck_M_isRoom ⟨rfl, rfl⟩ ⟨by decide, by decide⟩ ⟨Nat.le_refl _, Nat.le_refl _⟩ hl.1 rfl (Nat.le_of_ble_eq_true rfl) d_M_watcher_9 ?_
    refine lv_if_eq (tgt := 23) hx hb d_M_watcher_12 rfl (fun hc => ?_) (fun hc => ?_)
    · have hf := ite_t hc hf
      exact K23 a1 a2 a3 M _ _ _  hl hP hS hf
    · have hf := ite_f hc hf
      refine lv_iload_n hx hb d_M_watcher_15 rfl (lv_at hl 3 rfl) ?_
      refine lv_if_lt (tgt := 23) hx hb d_M_watcher_16 rfl (fun hc => ?_) (fun hc => ?_)
      · have hf := ite_t hc hf
        exact K23 a1 a2 a3 M _ _ _  hl hP hS hf
      · have hf := ite_f hc hf
        refine lv_iconst (v := 1) hx hb d_M_watcher_19 rfl ?_
        refine lv_goto (tgt := 24) hx hb d_M_watcher_20 rfl ?_
        exact K24 a1 a2 a3 1 M _ _ _  hl hP hS hf
noncomputable def fM_used_74 (v1 : Int32) (M : Mem) : Option (Int32) := some v1
noncomputable def fM_used_67 (v2 s67_0 : Int32) (M : Mem) : Option ((Int32 × Int32) ⊕ (Int32 × Int32)) := xlt (v2 + 1) (fun x1 => some (.inr (s67_0, x1)))
noncomputable def fM_used_56 (v1 v2 v3 : Int32) (M : Mem) : Option ((Int32 × Int32) ⊕ (Int32 × Int32)) := if v3 = 0 then (fM_used_67 v2 v1 M) else (fM_used_67 v2 (v1 + 1) M)
noncomputable def fM_used_49 (v1 v2 v4 s49_0 : Int32) (M : Mem) : Option ((Int32 × Int32) ⊕ (Int32 × Int32)) := xlt (v4 + 1) (fun x2 => some (.inr (s49_0, x2)))
noncomputable def fM_used_48 (v1 v2 v4 : Int32) (M : Mem) : Option ((Int32 × Int32) ⊕ (Int32 × Int32)) := fM_used_49 v1 v2 v4 0 M
noncomputable def fM_used_44 (v1 v2 v4 : Int32) (M : Mem) : Option ((Int32 × Int32) ⊕ (Int32 × Int32)) := fM_used_49 v1 v2 v4 1 M
noncomputable def gM_used_15 (v1 v2 : Int32) (M : Mem) (v3 v4 : Int32) : Option ((Int32 × Int32) ⊕ (Int32 × Int32)) := if 9 ≤ v4 then (some (.inl (v3, v4))) else (if v3 = 0 then (if (M 0 7) = 0 then (fM_used_48 v1 v2 v4 M) else (xgd (vp_in v4 9) (if (M 7 v4.toNatClampNeg) = v2 then (fM_used_44 v1 v2 v4 M) else (fM_used_48 v1 v2 v4 M)))) else (fM_used_44 v1 v2 v4 M))
noncomputable def bM_used_15 (v1 v2 : Int32) (M : Mem) : Int32 × Int32 → Option ((Int32 × Int32) ⊕ (Int32 × Int32)) := fun st => gM_used_15 v1 v2 M st.1 st.2
noncomputable def gM_used_4 (M : Mem) (v1 v2 : Int32) : Option ((Int32 × Int32) ⊕ (Int32 × Int32)) := if 6 ≤ v2 then (some (.inl (v1, v2))) else (xbd (xlp (bM_used_15 v1 v2 M) (0, 0)) (fun e15 => fM_used_56 v1 v2 e15.1 M))
noncomputable def bM_used_4 (M : Mem) : Int32 × Int32 → Option ((Int32 × Int32) ⊕ (Int32 × Int32)) := fun st => gM_used_4 M st.1 st.2
noncomputable def fM_used (M : Mem) : Option (Int32) := xbd (xlp (bM_used_4  M) (0, 0)) (fun e4 => fM_used_74 e4.1 M)
set_option maxHeartbeats 4000000 in
set_option maxRecDepth 100000 in
theorem tM_used (l : Launch) (G : va_G) (c3 : ClassId × ClassId × ClassId) (ad : Nat → Nat) (M : Mem) (out : Int32) (hf : fM_used M = some out) : RMet l yM_used cM_used 5 (some .int) (rm0_ 0 0) G kl SM c3 ad M [.ref (ad 0)] out := by
  refine RMet.of (by decide +kernel) (Nat.le_of_ble_eq_true rfl) (fun p e s m args below meth c ls F hT hK hP hr hlk hl => ?_)
  have hx := F.1
  have hb := F.2.1
  have F : CallFix p m c cM_used 5 s args gw RM := F
  have hown := F.2.2.2.1
  have hl : lv_has ls 5 [(0, .ref (ad 0))] := hl
  have K74 : ∀ (v1 : Int32) (ls : Array Slot), lv_has ls 5 [(1, .int v1)] → fM_used_74 v1 M = some out → W p l e (rm0_ 0 0) s m args below meth c s.heap [] 0 0 (MQ below (QcRead out) args s 0 0 (fun _ => False)) (F0 m 74 ls []) := by
    intro v1 ls  hl hf
    unfold fM_used_74 at hf
    refine lv_iload_n hx hb d_M_used_74 rfl (lv_at hl 0 rfl) ?_
    exact xr_iret hx hb hr hlk (Option.some.inj hf) d_M_used_75
  unfold fM_used at hf
  refine lv_iconst (v := 0) hx hb d_M_used_0 rfl ?_
  refine lv_istore_n (lv' := [(1, .int 0), (0, .ref (ad 0))]) hx hb d_M_used_1 rfl hl (by decide) rfl (fun ls hl => ?_)
  refine lv_iconst (v := 0) hx hb d_M_used_2 rfl ?_
  refine lv_istore_n (lv' := [(2, .int 0), (1, .int 0), (0, .ref (ad 0))]) hx hb d_M_used_3 rfl hl (by decide) rfl (fun ls hl => ?_)
  obtain ⟨e4, he4, hk4⟩ := xbd_some hf
  obtain ⟨n4, hq4⟩ := xlp_n he4
  have LH4 : ∀ (n : Nat) (v1 v2 : Int32) (ls : Array Slot), lv_has ls 5 [(0, .ref (ad 0)), (1, .int v1), (2, .int v2)] → xwh (bM_used_4  M) n (v1, v2) = some e4 → W p l e (rm0_ 0 0) s m args below meth c s.heap [] 0 0 (MQ below (QcRead out) args s 0 0 (fun _ => False)) (F0 m 4 ls []) := by
    intro n
    induction n with
    | zero =>
      intro v1 v2 ls hl hn
      exact xwh_0 hn
    | succ n ih4 =>
      intro v1 v2 ls hl hn4
      obtain ⟨o4, hf, hn4⟩ := xwh_s hn4
      have hf : gM_used_4 M v1 v2 = some o4 := hf
      have K67 : ∀ (v2 s67_0 : Int32) (ls : Array Slot), lv_has ls 5 [(0, .ref (ad 0)), (2, .int v2)] → fM_used_67 v2 s67_0 M = some o4 → W p l e (rm0_ 0 0) s m args below meth c s.heap [] 0 0 (MQ below (QcRead out) args s 0 0 (fun _ => False)) (F0 m 67 ls [.int s67_0]) := by
        intro v2 s67_0 ls  hl hf
        unfold fM_used_67 at hf
        refine lv_istore_n (lv' := [(1, .int s67_0), (0, .ref (ad 0)), (2, .int v2)]) hx hb d_M_used_67 rfl hl (by decide) rfl (fun ls hl => ?_)
        obtain ⟨x1, hx1, hf⟩ := xlt_some hf
        refine lv_iinc (k := 2) (lv' := [(2, .int x1), (1, .int s67_0), (0, .ref (ad 0))]) hx hb d_M_used_68 hl rfl hx1 (by decide) rfl (fun ls hl => ?_)
        refine lv_goto (tgt := 4) hx hb d_M_used_71 rfl ?_
        exact ih4 s67_0 x1 _ (lv_sub hl [2, 1, 0] rfl) (xw_again hf hn4)
      have K56 : ∀ (v1 v2 v3 : Int32) (ls : Array Slot), lv_has ls 5 [(0, .ref (ad 0)), (1, .int v1), (2, .int v2), (3, .int v3)] → fM_used_56 v1 v2 v3 M = some o4 → W p l e (rm0_ 0 0) s m args below meth c s.heap [] 0 0 (MQ below (QcRead out) args s 0 0 (fun _ => False)) (F0 m 56 ls []) := by
        intro v1 v2 v3 ls  hl hf
        unfold fM_used_56 at hf
        refine lv_iload_n hx hb d_M_used_56 rfl (lv_at hl 3 rfl) ?_
        refine lv_if_eq (tgt := 66) hx hb d_M_used_57 rfl (fun hc => ?_) (fun hc => ?_)
        · have hf := ite_t hc hf
          refine lv_iload_n hx hb d_M_used_66 rfl (lv_at hl 1 rfl) ?_
          exact K67 v2 v1 _  (lv_sub hl [0, 2] rfl) hf
        · have hf := ite_f hc hf
          refine lv_iload_n hx hb d_M_used_60 rfl (lv_at hl 1 rfl) ?_
          refine lv_iconst (v := 1) hx hb d_M_used_61 rfl ?_
          refine lv_iadd hx hb d_M_used_62 ?_
          refine lv_goto (tgt := 67) hx hb d_M_used_63 rfl ?_
          exact K67 v2 (v1 + 1) _  (lv_sub hl [0, 2] rfl) hf
      unfold gM_used_4 at hf
      refine lv_iload_n hx hb d_M_used_4 rfl (lv_at hl 2 rfl) ?_
      refine lv_bipush (v := 6) hx hb d_M_used_5 rfl ?_
      refine lv_icmp_ge (tgt := 74) hx hb d_M_used_7 rfl (fun hc => ?_) (fun hc => ?_)
      · have hf := ite_t hc hf
        have he := xw_exit hf hn4
        subst he
        have hf := hk4
        exact K74 v1 _  (lv_sub hl [1] rfl) hf
      · have hf := ite_f hc hf
        refine lv_iconst (v := 0) hx hb d_M_used_10 rfl ?_
        refine lv_istore_n (lv' := [(3, .int 0), (0, .ref (ad 0)), (1, .int v1), (2, .int v2)]) hx hb d_M_used_11 rfl hl (by decide) rfl (fun ls hl => ?_)
        refine lv_iconst (v := 0) hx hb d_M_used_12 rfl ?_
        refine lv_istore (lv' := [(4, .int 0), (3, .int 0), (0, .ref (ad 0)), (1, .int v1), (2, .int v2)]) hx hb d_M_used_13 hl (by decide) rfl (fun ls hl => ?_)
        obtain ⟨e15, he15, hk15⟩ := xbd_some hf
        obtain ⟨n15, hq15⟩ := xlp_n he15
        have LH15 : ∀ (n : Nat) (v3 v4 : Int32) (ls : Array Slot), lv_has ls 5 [(0, .ref (ad 0)), (1, .int v1), (2, .int v2), (3, .int v3), (4, .int v4)] → xwh (bM_used_15 v1 v2 M) n (v3, v4) = some e15 → W p l e (rm0_ 0 0) s m args below meth c s.heap [] 0 0 (MQ below (QcRead out) args s 0 0 (fun _ => False)) (F0 m 15 ls []) := by
          intro n
          induction n with
          | zero =>
            intro v3 v4 ls hl hn
            exact xwh_0 hn
          | succ n ih15 =>
            intro v3 v4 ls hl hn15
            obtain ⟨o15, hf, hn15⟩ := xwh_s hn15
            have hf : gM_used_15 v1 v2 M v3 v4 = some o15 := hf
            have K49 : ∀ (v4 s49_0 : Int32) (ls : Array Slot), lv_has ls 5 [(0, .ref (ad 0)), (1, .int v1), (2, .int v2), (4, .int v4)] → fM_used_49 v1 v2 v4 s49_0 M = some o15 → W p l e (rm0_ 0 0) s m args below meth c s.heap [] 0 0 (MQ below (QcRead out) args s 0 0 (fun _ => False)) (F0 m 49 ls [.int s49_0]) := by
              intro v4 s49_0 ls  hl hf
              unfold fM_used_49 at hf
              refine lv_istore_n (lv' := [(3, .int s49_0), (0, .ref (ad 0)), (1, .int v1), (2, .int v2), (4, .int v4)]) hx hb d_M_used_49 rfl hl (by decide) rfl (fun ls hl => ?_)
              obtain ⟨x2, hx2, hf⟩ := xlt_some hf
              refine lv_iinc (k := 4) (lv' := [(4, .int x2), (3, .int s49_0), (0, .ref (ad 0)), (1, .int v1), (2, .int v2)]) hx hb d_M_used_50 hl rfl hx2 (by decide) rfl (fun ls hl => ?_)
              refine lv_goto (tgt := 15) hx hb d_M_used_53 rfl ?_
              exact ih15 s49_0 x2 _ (lv_sub hl [2, 3, 4, 1, 0] rfl) (xw_again hf hn15)
            have K48 : ∀ (v4 : Int32) (ls : Array Slot), lv_has ls 5 [(0, .ref (ad 0)), (1, .int v1), (2, .int v2), (4, .int v4)] → fM_used_48 v1 v2 v4 M = some o15 → W p l e (rm0_ 0 0) s m args below meth c s.heap [] 0 0 (MQ below (QcRead out) args s 0 0 (fun _ => False)) (F0 m 48 ls []) := by
              intro v4 ls  hl hf
              unfold fM_used_48 at hf
              refine lv_iconst (v := 0) hx hb d_M_used_48 rfl ?_
              exact K49 v4 0 _  hl hf
            have K44 : ∀ (v4 : Int32) (ls : Array Slot), lv_has ls 5 [(0, .ref (ad 0)), (1, .int v1), (2, .int v2), (4, .int v4)] → fM_used_44 v1 v2 v4 M = some o15 → W p l e (rm0_ 0 0) s m args below meth c s.heap [] 0 0 (MQ below (QcRead out) args s 0 0 (fun _ => False)) (F0 m 44 ls []) := by
              intro v4 ls  hl hf
              unfold fM_used_44 at hf
              refine lv_iconst (v := 1) hx hb d_M_used_44 rfl ?_
              refine lv_goto (tgt := 49) hx hb d_M_used_45 rfl ?_
              exact K49 v4 1 _  hl hf
            unfold gM_used_15 at hf
            refine lv_iload hx hb d_M_used_15 (lv_at hl 4 rfl) ?_
            refine lv_bipush (v := 9) hx hb d_M_used_17 rfl ?_
            refine lv_icmp_ge (tgt := 56) hx hb d_M_used_19 rfl (fun hc => ?_) (fun hc => ?_)
            · have hf := ite_t hc hf
              have he := xw_exit hf hn15
              subst he
              have hf := hk15
              exact K56 v1 v2 v3 _  (lv_sub hl [0, 1, 2, 3] rfl) hf
            · have hf := ite_f hc hf
              refine lv_iload_n hx hb d_M_used_22 rfl (lv_at hl 3 rfl) ?_
              refine lv_if_ne (tgt := 44) hx hb d_M_used_23 rfl (fun hc => ?_) (fun hc => ?_)
              · have hf := ite_f hc hf
                exact K44 v4 _  (lv_sub hl [0, 1, 2, 4] rfl) hf
              · have hf := ite_t hc hf
                refine lv_aload_n hx hb d_M_used_26 rfl (lv_at hl 0 rfl) ?_
                refine xr_geti hx hb hT hown hK hP sM_0 rfl inM 7 (by decide) wf_M_85 rfl d_M_used_27 ?_
                refine lv_if_eq (tgt := 48) hx hb d_M_used_30 rfl (fun hc => ?_) (fun hc => ?_)
                · have hf := ite_t hc hf
                  exact K48 v4 _  (lv_sub hl [0, 1, 2, 4] rfl) hf
                · have hf := ite_f hc hf
                  refine lv_aload_n hx hb d_M_used_33 rfl (lv_at hl 0 rfl) ?_
                  refine xr_getr hx hb hT hown hK hP sM_0 rfl inM 8 (by decide) wf_M_29 rfl d_M_used_34 ?_
                  refine lv_iload hx hb d_M_used_37 (lv_at hl 4 rfl) ?_
                  obtain ⟨g3, hf⟩ := xgd_some hf
                  refine xr_iald hx hb hK hP sM_7 g3 d_M_used_39 ?_
                  refine lv_iload_n hx hb d_M_used_40 rfl (lv_at hl 2 rfl) ?_
                  refine lv_icmp_ne (tgt := 48) hx hb d_M_used_41 rfl (fun hc => ?_) (fun hc => ?_)
                  · have hf := ite_f hc hf
                    exact K48 v4 _  (lv_sub hl [0, 1, 2, 4] rfl) hf
                  · have hf := ite_t hc hf
                    exact K44 v4 _  (lv_sub hl [0, 1, 2, 4] rfl) hf
        exact LH15 n15 0 0 _ (lv_sub hl [2, 3, 4, 1, 0] rfl) hq15
  exact LH4 n4 0 0 _ (lv_sub hl [2, 1, 0] rfl) hq4
noncomputable def fM_count_181 (v2 : Int32) (M : Mem) : Option (Int32 × Mem) := some (v2, M)
noncomputable def fM_count_174 (v3 s174_0 : Int32) (M : Mem) : Option ((Int32 × Int32) ⊕ (Int32 × Int32)) := xlt (v3 + 1) (fun x1 => some (.inr (s174_0, x1)))
noncomputable def gM_count_151 (M : Mem) (v2 v3 : Int32) : Option ((Int32 × Int32) ⊕ (Int32 × Int32)) := if 240 ≤ v3 then (some (.inl (v2, v3))) else (xgd (vp_in v3 240) (if (M 21 v3.toNatClampNeg) = 0 then (fM_count_174 v3 v2 M) else (fM_count_174 v3 (v2 + 1) M)))
noncomputable def bM_count_151 (M : Mem) : Int32 × Int32 → Option ((Int32 × Int32) ⊕ (Int32 × Int32)) := fun st => gM_count_151 M st.1 st.2
noncomputable def fM_count_146 (v2 : Int32) (M : Mem) : Option (Int32 × Mem) := fM_count_181 v2 M
noncomputable def fM_count_139 (v3 s139_0 : Int32) (M : Mem) : Option ((Int32 × Int32) ⊕ (Int32 × Int32)) := xlt (v3 + 1) (fun x3 => some (.inr (s139_0, x3)))
noncomputable def gM_count_116 (M : Mem) (v2 v3 : Int32) : Option ((Int32 × Int32) ⊕ (Int32 × Int32)) := if 864 ≤ v3 then (some (.inl (v2, v3))) else (xgd (vp_in v3 864) (if (M 17 v3.toNatClampNeg) ≤ 0 then (fM_count_139 v3 v2 M) else (fM_count_139 v3 (v2 + 1) M)))
noncomputable def bM_count_116 (M : Mem) : Int32 × Int32 → Option ((Int32 × Int32) ⊕ (Int32 × Int32)) := fun st => gM_count_116 M st.1 st.2
noncomputable def fM_count_93 (v2 : Int32) (M : Mem) : Option (Int32 × Mem) := fM_count_181 v2 M
noncomputable def fM_count_86 (v3 s86_0 : Int32) (M : Mem) : Option ((Int32 × Int32) ⊕ (Int32 × Int32)) := xlt (v3 + 1) (fun x5 => some (.inr (s86_0, x5)))
noncomputable def gM_count_63 (M : Mem) (v2 v3 : Int32) : Option ((Int32 × Int32) ⊕ (Int32 × Int32)) := if 360 ≤ v3 then (some (.inl (v2, v3))) else (xgd (vp_in v3 360) (if (M 4 v3.toNatClampNeg) = 0 then (fM_count_86 v3 v2 M) else (fM_count_86 v3 (v2 + 1) M)))
noncomputable def bM_count_63 (M : Mem) : Int32 × Int32 → Option ((Int32 × Int32) ⊕ (Int32 × Int32)) := fun st => gM_count_63 M st.1 st.2
noncomputable def fM_count_53 (v2 : Int32) (M : Mem) : Option (Int32 × Mem) := fM_count_181 v2 M
noncomputable def fM_count_46 (v3 s46_0 : Int32) (M : Mem) : Option ((Int32 × Int32) ⊕ (Int32 × Int32)) := xlt (v3 + 1) (fun x7 => some (.inr (s46_0, x7)))
noncomputable def gM_count_24 (M : Mem) (v2 v3 : Int32) : Option ((Int32 × Int32) ⊕ (Int32 × Int32)) := if 9 ≤ v3 then (some (.inl (v2, v3))) else (xgd (vp_in v3 9) (if (M 1 v3.toNatClampNeg) ≤ 0 then (fM_count_46 v3 v2 M) else (fM_count_46 v3 (v2 + 1) M)))
noncomputable def bM_count_24 (M : Mem) : Int32 × Int32 → Option ((Int32 × Int32) ⊕ (Int32 × Int32)) := fun st => gM_count_24 M st.1 st.2
noncomputable def fM_count (a1 : Int32) (M : Mem) : Option (Int32 × Mem) := xbd (fM_within a1 0 4) (fun r9 => xbd (fM_goes r9 1 M) (fun r10 => if r10.1 = 0 then (some (0, r10.2)) else (if a1 = 0 then (xbd (xlp (bM_count_24  r10.2) (0, 0)) (fun e24 => fM_count_53 e24.1 r10.2)) else (if a1 = 1 then (xbd (xlp (bM_count_63  r10.2) (0, 0)) (fun e63 => fM_count_93 e63.1 r10.2)) else (if a1 = 2 then (xbd (fM_used  r10.2) (fun r15 => fM_count_181 r15 r10.2)) else (if a1 = 3 then (xbd (xlp (bM_count_116  r10.2) (0, 0)) (fun e116 => fM_count_146 e116.1 r10.2)) else (xbd (xlp (bM_count_151  r10.2) (0, 0)) (fun e151 => fM_count_181 e151.1 r10.2))))))))
set_option maxHeartbeats 4000000 in
set_option maxRecDepth 100000 in
theorem tM_count (l : Launch) (G : va_G) (c3 : ClassId × ClassId × ClassId) (ad : Nat → Nat) (hd : adI SM ad) (M : Mem) (a1 : Int32) (o1 : Int32) (o2 : Mem) (hf : fM_count a1 M = some (o1, o2)) : WMet l yM_count cM_count 4 (some .int) (rm0_ 1 24) G kl SM c3 ad M [.ref (ad 0), .int a1] (some (.int o1)) o2 := by
  generalize hout : (o1, o2) = out at hf
  obtain rfl : out.1 = o1 := by rw [← hout]
  obtain rfl : out.2 = o2 := by rw [← hout]
  clear hout
  refine WMet.of (by decide +kernel) (Nat.le_of_ble_eq_true rfl) (fun p e s m args below meth c ls F hT hK hP hr hlk hl hS => ?_)
  have hx := F.1
  have hb := F.2.1
  have F : CallFix p m c cM_count 4 s args gw RM := F
  have hown := F.2.2.2.1
  have hl : lv_has ls 4 [(0, .ref (ad 0)), (1, .int a1)] := hl
  revert hP hS
  suffices hall : ∀ (H : Heap) (locs : List Loc), va_P G kl (wd SM c3 ad M) H → va_S (adA SM ad) s.heap H locs → W p l e (rm0_ 1 24) s m args below meth c H locs 0 0 (MQ below (QW G kl SM c3 ad (some (.int out.1)) out.2) args s 0 0 (adA SM ad)) (F0 m 0 ls []) from hall s.heap []
  intro H locs hP hS
  have K181 : ∀ (v2 : Int32) (M : Mem) (H : Heap) (locs : List Loc) (ls : Array Slot), lv_has ls 4 [(2, .int v2)] → va_P G kl (wd SM c3 ad M) H → va_S (adA SM ad) s.heap H locs → fM_count_181 v2 M = some out → W p l e (rm0_ 1 24) s m args below meth c H locs 0 0 (MQ below (QW G kl SM c3 ad (some (.int out.1)) out.2) args s 0 0 (adA SM ad)) (F0 m 181 ls []) := by
    intro v2 M H locs ls  hl hP hS hf
    unfold fM_count_181 at hf
    refine lv_iload_n hx hb d_M_count_181 rfl (lv_at hl 0 rfl) ?_
    exact xw_iret hx hb hr hlk hP hS (Option.some.inj hf) d_M_count_182
  have K146 : ∀ (v2 : Int32) (M : Mem) (H : Heap) (locs : List Loc) (ls : Array Slot), lv_has ls 4 [(2, .int v2)] → va_P G kl (wd SM c3 ad M) H → va_S (adA SM ad) s.heap H locs → fM_count_146 v2 M = some out → W p l e (rm0_ 1 24) s m args below meth c H locs 0 0 (MQ below (QW G kl SM c3 ad (some (.int out.1)) out.2) args s 0 0 (adA SM ad)) (F0 m 146 ls []) := by
    intro v2 M H locs ls  hl hP hS hf
    unfold fM_count_146 at hf
    refine lv_goto (tgt := 181) hx hb d_M_count_146 rfl ?_
    exact K181 v2 M _ _ _  hl hP hS hf
  have K93 : ∀ (v2 : Int32) (M : Mem) (H : Heap) (locs : List Loc) (ls : Array Slot), lv_has ls 4 [(2, .int v2)] → va_P G kl (wd SM c3 ad M) H → va_S (adA SM ad) s.heap H locs → fM_count_93 v2 M = some out → W p l e (rm0_ 1 24) s m args below meth c H locs 0 0 (MQ below (QW G kl SM c3 ad (some (.int out.1)) out.2) args s 0 0 (adA SM ad)) (F0 m 93 ls []) := by
    intro v2 M H locs ls  hl hP hS hf
    unfold fM_count_93 at hf
    refine lv_goto (tgt := 181) hx hb d_M_count_93 rfl ?_
    exact K181 v2 M _ _ _  hl hP hS hf
  have K53 : ∀ (v2 : Int32) (M : Mem) (H : Heap) (locs : List Loc) (ls : Array Slot), lv_has ls 4 [(2, .int v2)] → va_P G kl (wd SM c3 ad M) H → va_S (adA SM ad) s.heap H locs → fM_count_53 v2 M = some out → W p l e (rm0_ 1 24) s m args below meth c H locs 0 0 (MQ below (QW G kl SM c3 ad (some (.int out.1)) out.2) args s 0 0 (adA SM ad)) (F0 m 53 ls []) := by
    intro v2 M H locs ls  hl hP hS hf
    unfold fM_count_53 at hf
    refine lv_goto (tgt := 181) hx hb d_M_count_53 rfl ?_
    exact K181 v2 M _ _ _  hl hP hS hf
  unfold fM_count at hf
  refine lv_aload_n hx hb d_M_count_0 rfl (lv_at hl 0 rfl) ?_
  refine lv_iload_n hx hb d_M_count_1 rfl (lv_at hl 1 rfl) ?_
  refine lv_iconst (v := 0) hx hb d_M_count_2 rfl ?_
  refine lv_iconst (v := 4) hx hb d_M_count_3 rfl ?_
  obtain ⟨r1, hr1, hf⟩ := xbd_some hf
  refine xc_rs (rest := [.ref (ad 0)]) F hT hK hP (tM_within l G c3 ad M a1 0 4 r1 hr1) wl_M_93 ws_M_within wn_M wc_M_within ck_M_within ⟨rfl, rfl⟩ ⟨by decide, by decide⟩ ⟨Nat.le_refl _, Nat.le_refl _⟩ hl.1 rfl (Nat.le_of_ble_eq_true rfl) d_M_count_4 ?_
  refine lv_iconst (v := 1) hx hb d_M_count_7 rfl ?_
  obtain ⟨r2, hr2, hf⟩ := xbd_some hf
  refine xc_wv (rest := []) F hT hK hP hS (fun _ h => h) (tM_goes l G c3 ad hd M r1 1 r2.1 r2.2 hr2) sM_0 rfl wl_M_97 wi_M_goes we_M_goes wn_M wc_M_goes ck_M_goes ⟨rfl, rfl⟩ ⟨by decide, by decide⟩ ⟨Nat.le_refl _, Nat.le_refl _⟩ hl.1 rfl (Nat.le_of_ble_eq_true rfl) d_M_count_8 (fun H locs hP hS _ => ?_)
  refine lv_if_ne (tgt := 16) hx hb d_M_count_11 rfl (fun hc => ?_) (fun hc => ?_)
  · have hf := ite_f hc hf
    refine lv_iconst (v := 0) hx hb d_M_count_16 rfl ?_
    refine lv_istore_n (lv' := [(2, .int 0), (0, .ref (ad 0)), (1, .int a1)]) hx hb d_M_count_17 rfl hl (by decide) rfl (fun ls hl => ?_)
    refine lv_iload_n hx hb d_M_count_18 rfl (lv_at hl 2 rfl) ?_
    refine lv_if_ne (tgt := 56) hx hb d_M_count_19 rfl (fun hc => ?_) (fun hc => ?_)
    · have hf := ite_f hc hf
      refine lv_iload_n hx hb d_M_count_56 rfl (lv_at hl 2 rfl) ?_
      refine lv_iconst (v := 1) hx hb d_M_count_57 rfl ?_
      refine lv_icmp_ne (tgt := 96) hx hb d_M_count_58 rfl (fun hc => ?_) (fun hc => ?_)
      · have hf := ite_f hc hf
        refine lv_iload_n hx hb d_M_count_96 rfl (lv_at hl 2 rfl) ?_
        refine lv_iconst (v := 2) hx hb d_M_count_97 rfl ?_
        refine lv_icmp_ne (tgt := 109) hx hb d_M_count_98 rfl (fun hc => ?_) (fun hc => ?_)
        · have hf := ite_f hc hf
          refine lv_iload_n hx hb d_M_count_109 rfl (lv_at hl 2 rfl) ?_
          refine lv_iconst (v := 3) hx hb d_M_count_110 rfl ?_
          refine lv_icmp_ne (tgt := 149) hx hb d_M_count_111 rfl (fun hc => ?_) (fun hc => ?_)
          · have hf := ite_f hc hf
            refine lv_iconst (v := 0) hx hb d_M_count_149 rfl ?_
            refine lv_istore_n (lv' := [(3, .int 0), (2, .int 0), (0, .ref (ad 0)), (1, .int a1)]) hx hb d_M_count_150 rfl hl (by decide) rfl (fun ls hl => ?_)
            obtain ⟨e151, he151, hk151⟩ := xbd_some hf
            obtain ⟨n151, hq151⟩ := xlp_n he151
            have LH151 : ∀ (n : Nat) (v2 v3 : Int32) (ls : Array Slot), lv_has ls 4 [(0, .ref (ad 0)), (2, .int v2), (3, .int v3)] → xwh (bM_count_151  r2.2) n (v2, v3) = some e151 → W p l e (rm0_ 1 24) s m args below meth c H locs 0 0 (MQ below (QW G kl SM c3 ad (some (.int out.1)) out.2) args s 0 0 (adA SM ad)) (F0 m 151 ls []) := by
              intro n
              induction n with
              | zero =>
                intro v2 v3 ls hl hn
                exact xwh_0 hn
              | succ n ih151 =>
                intro v2 v3 ls hl hn151
                obtain ⟨o151, hf, hn151⟩ := xwh_s hn151
                have hf : gM_count_151 r2.2 v2 v3 = some o151 := hf
                have K174 : ∀ (v3 s174_0 : Int32) (ls : Array Slot), lv_has ls 4 [(0, .ref (ad 0)), (3, .int v3)] → fM_count_174 v3 s174_0 r2.2 = some o151 → W p l e (rm0_ 1 24) s m args below meth c H locs 0 0 (MQ below (QW G kl SM c3 ad (some (.int out.1)) out.2) args s 0 0 (adA SM ad)) (F0 m 174 ls [.int s174_0]) := by
                  intro v3 s174_0 ls  hl hf
                  unfold fM_count_174 at hf
                  refine lv_istore_n (lv' := [(2, .int s174_0), (0, .ref (ad 0)), (3, .int v3)]) hx hb d_M_count_174 rfl hl (by decide) rfl (fun ls hl => ?_)
                  obtain ⟨x3, hx3, hf⟩ := xlt_some hf
                  refine lv_iinc (k := 2) (lv' := [(3, .int x3), (2, .int s174_0), (0, .ref (ad 0))]) hx hb d_M_count_175 hl rfl hx3 (by decide) rfl (fun ls hl => ?_)
                  refine lv_goto (tgt := 151) hx hb d_M_count_178 rfl ?_
                  exact ih151 s174_0 x3 _ (lv_sub hl [2, 1, 0] rfl) (xw_again hf hn151)
                unfold gM_count_151 at hf
                refine lv_iload_n hx hb d_M_count_151 rfl (lv_at hl 2 rfl) ?_
                refine lv_sipush (v := 240) hx hb d_M_count_152 rfl ?_
                refine lv_icmp_ge (tgt := 181) hx hb d_M_count_155 rfl (fun hc => ?_) (fun hc => ?_)
                · have hf := ite_t hc hf
                  have he := xw_exit hf hn151
                  subst he
                  have hf := hk151
                  exact K181 v2 r2.2 _ _ _  (lv_sub hl [1] rfl) hP hS hf
                · have hf := ite_f hc hf
                  refine lv_aload_n hx hb d_M_count_158 rfl (lv_at hl 0 rfl) ?_
                  refine xr_getr hx hb hT hown hK hP sM_0 rfl inM 22 (by decide) wf_M_71 rfl d_M_count_159 ?_
                  refine lv_iload_n hx hb d_M_count_162 rfl (lv_at hl 2 rfl) ?_
                  obtain ⟨g4, hf⟩ := xgd_some hf
                  refine xr_zald hx hb hK hP sM_21 g4 d_M_count_163 ?_
                  refine lv_if_eq (tgt := 173) hx hb d_M_count_164 rfl (fun hc => ?_) (fun hc => ?_)
                  · have hf := ite_t hc hf
                    refine lv_iload_n hx hb d_M_count_173 rfl (lv_at hl 1 rfl) ?_
                    exact K174 v3 v2 _  (lv_sub hl [0, 2] rfl) hf
                  · have hf := ite_f hc hf
                    refine lv_iload_n hx hb d_M_count_167 rfl (lv_at hl 1 rfl) ?_
                    refine lv_iconst (v := 1) hx hb d_M_count_168 rfl ?_
                    refine lv_iadd hx hb d_M_count_169 ?_
                    refine lv_goto (tgt := 174) hx hb d_M_count_170 rfl ?_
                    exact K174 v3 (v2 + 1) _  (lv_sub hl [0, 2] rfl) hf
            exact LH151 n151 0 0 _ (lv_sub hl [2, 1, 0] rfl) hq151
          · have hf := ite_t hc hf
            refine lv_iconst (v := 0) hx hb d_M_count_114 rfl ?_
            refine lv_istore_n (lv' := [(3, .int 0), (2, .int 0), (0, .ref (ad 0)), (1, .int a1)]) hx hb d_M_count_115 rfl hl (by decide) rfl (fun ls hl => ?_)
            obtain ⟨e116, he116, hk116⟩ := xbd_some hf
            obtain ⟨n116, hq116⟩ := xlp_n he116
            have LH116 : ∀ (n : Nat) (v2 v3 : Int32) (ls : Array Slot), lv_has ls 4 [(0, .ref (ad 0)), (2, .int v2), (3, .int v3)] → xwh (bM_count_116  r2.2) n (v2, v3) = some e116 → W p l e (rm0_ 1 24) s m args below meth c H locs 0 0 (MQ below (QW G kl SM c3 ad (some (.int out.1)) out.2) args s 0 0 (adA SM ad)) (F0 m 116 ls []) := by
              intro n
              induction n with
              | zero =>
                intro v2 v3 ls hl hn
                exact xwh_0 hn
              | succ n ih116 =>
                intro v2 v3 ls hl hn116
                obtain ⟨o116, hf, hn116⟩ := xwh_s hn116
                have hf : gM_count_116 r2.2 v2 v3 = some o116 := hf
                have K139 : ∀ (v3 s139_0 : Int32) (ls : Array Slot), lv_has ls 4 [(0, .ref (ad 0)), (3, .int v3)] → fM_count_139 v3 s139_0 r2.2 = some o116 → W p l e (rm0_ 1 24) s m args below meth c H locs 0 0 (MQ below (QW G kl SM c3 ad (some (.int out.1)) out.2) args s 0 0 (adA SM ad)) (F0 m 139 ls [.int s139_0]) := by
                  intro v3 s139_0 ls  hl hf
                  unfold fM_count_139 at hf
                  refine lv_istore_n (lv' := [(2, .int s139_0), (0, .ref (ad 0)), (3, .int v3)]) hx hb d_M_count_139 rfl hl (by decide) rfl (fun ls hl => ?_)
                  obtain ⟨x5, hx5, hf⟩ := xlt_some hf
                  refine lv_iinc (k := 2) (lv' := [(3, .int x5), (2, .int s139_0), (0, .ref (ad 0))]) hx hb d_M_count_140 hl rfl hx5 (by decide) rfl (fun ls hl => ?_)
                  refine lv_goto (tgt := 116) hx hb d_M_count_143 rfl ?_
                  exact ih116 s139_0 x5 _ (lv_sub hl [2, 1, 0] rfl) (xw_again hf hn116)
                unfold gM_count_116 at hf
                refine lv_iload_n hx hb d_M_count_116 rfl (lv_at hl 2 rfl) ?_
                refine lv_sipush (v := 864) hx hb d_M_count_117 rfl ?_
                refine lv_icmp_ge (tgt := 146) hx hb d_M_count_120 rfl (fun hc => ?_) (fun hc => ?_)
                · have hf := ite_t hc hf
                  have he := xw_exit hf hn116
                  subst he
                  have hf := hk116
                  exact K146 v2 r2.2 _ _ _  (lv_sub hl [1] rfl) hP hS hf
                · have hf := ite_f hc hf
                  refine lv_aload_n hx hb d_M_count_123 rfl (lv_at hl 0 rfl) ?_
                  refine xr_getr hx hb hT hown hK hP sM_0 rfl inM 18 (by decide) wf_M_59 rfl d_M_count_124 ?_
                  refine lv_iload_n hx hb d_M_count_127 rfl (lv_at hl 2 rfl) ?_
                  obtain ⟨g6, hf⟩ := xgd_some hf
                  refine xr_iald hx hb hK hP sM_17 g6 d_M_count_128 ?_
                  refine lv_if_le (tgt := 138) hx hb d_M_count_129 rfl (fun hc => ?_) (fun hc => ?_)
                  · have hf := ite_t hc hf
                    refine lv_iload_n hx hb d_M_count_138 rfl (lv_at hl 1 rfl) ?_
                    exact K139 v3 v2 _  (lv_sub hl [0, 2] rfl) hf
                  · have hf := ite_f hc hf
                    refine lv_iload_n hx hb d_M_count_132 rfl (lv_at hl 1 rfl) ?_
                    refine lv_iconst (v := 1) hx hb d_M_count_133 rfl ?_
                    refine lv_iadd hx hb d_M_count_134 ?_
                    refine lv_goto (tgt := 139) hx hb d_M_count_135 rfl ?_
                    exact K139 v3 (v2 + 1) _  (lv_sub hl [0, 2] rfl) hf
            exact LH116 n116 0 0 _ (lv_sub hl [2, 1, 0] rfl) hq116
        · have hf := ite_t hc hf
          refine lv_aload_n hx hb d_M_count_101 rfl (lv_at hl 1 rfl) ?_
          obtain ⟨r7, hr7, hf⟩ := xbd_some hf
          refine xc_rv (rest := []) F hT hK hP (tM_used l G c3 ad r2.2  r7 hr7) sM_0 rfl wl_M_173 wi_M_used we_M_used wn_M wc_M_used ck_M_used ⟨rfl, rfl⟩ ⟨by decide, by decide⟩ ⟨Nat.le_refl _, Nat.le_refl _⟩ hl.1 rfl (Nat.le_of_ble_eq_true rfl) d_M_count_102 ?_
          refine lv_istore_n (lv' := [(2, .int r7), (0, .ref (ad 0)), (1, .int a1)]) hx hb d_M_count_105 rfl hl (by decide) rfl (fun ls hl => ?_)
          refine lv_goto (tgt := 181) hx hb d_M_count_106 rfl ?_
          exact K181 r7 r2.2 _ _ _  (lv_sub hl [0] rfl) hP hS hf
      · have hf := ite_t hc hf
        refine lv_iconst (v := 0) hx hb d_M_count_61 rfl ?_
        refine lv_istore_n (lv' := [(3, .int 0), (2, .int 0), (0, .ref (ad 0)), (1, .int a1)]) hx hb d_M_count_62 rfl hl (by decide) rfl (fun ls hl => ?_)
        obtain ⟨e63, he63, hk63⟩ := xbd_some hf
        obtain ⟨n63, hq63⟩ := xlp_n he63
        have LH63 : ∀ (n : Nat) (v2 v3 : Int32) (ls : Array Slot), lv_has ls 4 [(0, .ref (ad 0)), (2, .int v2), (3, .int v3)] → xwh (bM_count_63  r2.2) n (v2, v3) = some e63 → W p l e (rm0_ 1 24) s m args below meth c H locs 0 0 (MQ below (QW G kl SM c3 ad (some (.int out.1)) out.2) args s 0 0 (adA SM ad)) (F0 m 63 ls []) := by
          intro n
          induction n with
          | zero =>
            intro v2 v3 ls hl hn
            exact xwh_0 hn
          | succ n ih63 =>
            intro v2 v3 ls hl hn63
            obtain ⟨o63, hf, hn63⟩ := xwh_s hn63
            have hf : gM_count_63 r2.2 v2 v3 = some o63 := hf
            have K86 : ∀ (v3 s86_0 : Int32) (ls : Array Slot), lv_has ls 4 [(0, .ref (ad 0)), (3, .int v3)] → fM_count_86 v3 s86_0 r2.2 = some o63 → W p l e (rm0_ 1 24) s m args below meth c H locs 0 0 (MQ below (QW G kl SM c3 ad (some (.int out.1)) out.2) args s 0 0 (adA SM ad)) (F0 m 86 ls [.int s86_0]) := by
              intro v3 s86_0 ls  hl hf
              unfold fM_count_86 at hf
              refine lv_istore_n (lv' := [(2, .int s86_0), (0, .ref (ad 0)), (3, .int v3)]) hx hb d_M_count_86 rfl hl (by decide) rfl (fun ls hl => ?_)
              obtain ⟨x8, hx8, hf⟩ := xlt_some hf
              refine lv_iinc (k := 2) (lv' := [(3, .int x8), (2, .int s86_0), (0, .ref (ad 0))]) hx hb d_M_count_87 hl rfl hx8 (by decide) rfl (fun ls hl => ?_)
              refine lv_goto (tgt := 63) hx hb d_M_count_90 rfl ?_
              exact ih63 s86_0 x8 _ (lv_sub hl [2, 1, 0] rfl) (xw_again hf hn63)
            unfold gM_count_63 at hf
            refine lv_iload_n hx hb d_M_count_63 rfl (lv_at hl 2 rfl) ?_
            refine lv_sipush (v := 360) hx hb d_M_count_64 rfl ?_
            refine lv_icmp_ge (tgt := 93) hx hb d_M_count_67 rfl (fun hc => ?_) (fun hc => ?_)
            · have hf := ite_t hc hf
              have he := xw_exit hf hn63
              subst he
              have hf := hk63
              exact K93 v2 r2.2 _ _ _  (lv_sub hl [1] rfl) hP hS hf
            · have hf := ite_f hc hf
              refine lv_aload_n hx hb d_M_count_70 rfl (lv_at hl 0 rfl) ?_
              refine xr_getr hx hb hT hown hK hP sM_0 rfl inM 4 (by decide) wf_M_19 rfl d_M_count_71 ?_
              refine lv_iload_n hx hb d_M_count_74 rfl (lv_at hl 2 rfl) ?_
              obtain ⟨g9, hf⟩ := xgd_some hf
              refine xr_zald hx hb hK hP sM_4 g9 d_M_count_75 ?_
              refine lv_if_eq (tgt := 85) hx hb d_M_count_76 rfl (fun hc => ?_) (fun hc => ?_)
              · have hf := ite_t hc hf
                refine lv_iload_n hx hb d_M_count_85 rfl (lv_at hl 1 rfl) ?_
                exact K86 v3 v2 _  (lv_sub hl [0, 2] rfl) hf
              · have hf := ite_f hc hf
                refine lv_iload_n hx hb d_M_count_79 rfl (lv_at hl 1 rfl) ?_
                refine lv_iconst (v := 1) hx hb d_M_count_80 rfl ?_
                refine lv_iadd hx hb d_M_count_81 ?_
                refine lv_goto (tgt := 86) hx hb d_M_count_82 rfl ?_
                exact K86 v3 (v2 + 1) _  (lv_sub hl [0, 2] rfl) hf
        exact LH63 n63 0 0 _ (lv_sub hl [2, 1, 0] rfl) hq63
    · have hf := ite_t hc hf
      refine lv_iconst (v := 0) hx hb d_M_count_22 rfl ?_
      refine lv_istore_n (lv' := [(3, .int 0), (2, .int 0), (0, .ref (ad 0)), (1, .int a1)]) hx hb d_M_count_23 rfl hl (by decide) rfl (fun ls hl => ?_)
      obtain ⟨e24, he24, hk24⟩ := xbd_some hf
      obtain ⟨n24, hq24⟩ := xlp_n he24
      have LH24 : ∀ (n : Nat) (v2 v3 : Int32) (ls : Array Slot), lv_has ls 4 [(0, .ref (ad 0)), (2, .int v2), (3, .int v3)] → xwh (bM_count_24  r2.2) n (v2, v3) = some e24 → W p l e (rm0_ 1 24) s m args below meth c H locs 0 0 (MQ below (QW G kl SM c3 ad (some (.int out.1)) out.2) args s 0 0 (adA SM ad)) (F0 m 24 ls []) := by
        intro n
        induction n with
        | zero =>
          intro v2 v3 ls hl hn
          exact xwh_0 hn
        | succ n ih24 =>
          intro v2 v3 ls hl hn24
          obtain ⟨o24, hf, hn24⟩ := xwh_s hn24
          have hf : gM_count_24 r2.2 v2 v3 = some o24 := hf
          have K46 : ∀ (v3 s46_0 : Int32) (ls : Array Slot), lv_has ls 4 [(0, .ref (ad 0)), (3, .int v3)] → fM_count_46 v3 s46_0 r2.2 = some o24 → W p l e (rm0_ 1 24) s m args below meth c H locs 0 0 (MQ below (QW G kl SM c3 ad (some (.int out.1)) out.2) args s 0 0 (adA SM ad)) (F0 m 46 ls [.int s46_0]) := by
            intro v3 s46_0 ls  hl hf
            unfold fM_count_46 at hf
            refine lv_istore_n (lv' := [(2, .int s46_0), (0, .ref (ad 0)), (3, .int v3)]) hx hb d_M_count_46 rfl hl (by decide) rfl (fun ls hl => ?_)
            obtain ⟨x10, hx10, hf⟩ := xlt_some hf
            refine lv_iinc (k := 2) (lv' := [(3, .int x10), (2, .int s46_0), (0, .ref (ad 0))]) hx hb d_M_count_47 hl rfl hx10 (by decide) rfl (fun ls hl => ?_)
            refine lv_goto (tgt := 24) hx hb d_M_count_50 rfl ?_
            exact ih24 s46_0 x10 _ (lv_sub hl [2, 1, 0] rfl) (xw_again hf hn24)
          unfold gM_count_24 at hf
          refine lv_iload_n hx hb d_M_count_24 rfl (lv_at hl 2 rfl) ?_
          refine lv_bipush (v := 9) hx hb d_M_count_25 rfl ?_
          refine lv_icmp_ge (tgt := 53) hx hb d_M_count_27 rfl (fun hc => ?_) (fun hc => ?_)
          · have hf := ite_t hc hf
            have he := xw_exit hf hn24
            subst he
            have hf := hk24
            exact K53 v2 r2.2 _ _ _  (lv_sub hl [1] rfl) hP hS hf
          · have hf := ite_f hc hf
            refine lv_aload_n hx hb d_M_count_30 rfl (lv_at hl 0 rfl) ?_
            refine xr_getr hx hb hT hown hK hP sM_0 rfl inM 1 (by decide) wf_M_7 rfl d_M_count_31 ?_
            refine lv_iload_n hx hb d_M_count_34 rfl (lv_at hl 2 rfl) ?_
            obtain ⟨g11, hf⟩ := xgd_some hf
            refine xr_iald hx hb hK hP sM_1 g11 d_M_count_35 ?_
            refine lv_if_le (tgt := 45) hx hb d_M_count_36 rfl (fun hc => ?_) (fun hc => ?_)
            · have hf := ite_t hc hf
              refine lv_iload_n hx hb d_M_count_45 rfl (lv_at hl 1 rfl) ?_
              exact K46 v3 v2 _  (lv_sub hl [0, 2] rfl) hf
            · have hf := ite_f hc hf
              refine lv_iload_n hx hb d_M_count_39 rfl (lv_at hl 1 rfl) ?_
              refine lv_iconst (v := 1) hx hb d_M_count_40 rfl ?_
              refine lv_iadd hx hb d_M_count_41 ?_
              refine lv_goto (tgt := 46) hx hb d_M_count_42 rfl ?_
              exact K46 v3 (v2 + 1) _  (lv_sub hl [0, 2] rfl) hf
      exact LH24 n24 0 0 _ (lv_sub hl [2, 1, 0] rfl) hq24
  · have hf := ite_t hc hf
    refine lv_iconst (v := 0) hx hb d_M_count_14 rfl ?_
    exact xw_iret hx hb hr hlk hP hS (Option.some.inj hf) d_M_count_15
