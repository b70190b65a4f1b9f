noncomputable def fT_forgetPlan (M : Mem) : Option (Mem) := xlt (up2 M 1 7 0) (fun M1 => xlt (up2 M1 1 8 0) (fun M2 => xlt (upA M2 11 9 (-1)) (fun M3 => some M3)))
set_option maxHeartbeats 4000000 in
set_option maxRecDepth 100000 in
theorem tT_forgetPlan (l : Launch) (G : va_G) (c3 : ClassId × ClassId × ClassId) (ad : Nat → Nat) (hd : adI SX ad) (M : Mem) (out : Mem) (hf : fT_forgetPlan M = some out) : WMet l yT_forgetPlan cT_forgetPlan 1 none (rm0_ 1 23) G kl SX c3 ad M [.ref (ad 1)] none out := by
  refine WMet.of (by decide +kernel) (Nat.le_of_ble_eq_true rfl) (fun p e s m args below meth c ls F hT hK hP hr hlk hl hS => ?_)
  have hx := F.1
  have hb := F.2.1
  have F : CallFix p m c cT_forgetPlan 1 s args gw RT := F
  have hown := F.2.2.2.1
  have hl : lv_has ls 1 [(0, .ref (ad 1))] := hl
  revert hP hS
  suffices hall : ∀ (H : Heap) (locs : List Loc), va_P G kl (wd SX c3 ad M) H → va_S (adA SX ad) s.heap H locs → W p l e (rm0_ 1 23) s m args below meth c H locs 0 0 (MQ below (QW G kl SX c3 ad none out) args s 0 0 (adA SX ad)) (F0 m 0 ls []) from hall s.heap []
  intro H locs hP hS
  unfold fT_forgetPlan at hf
  refine lv_aload_n hx hb d_T_forgetPlan_0 rfl (lv_at hl 0 rfl) ?_
  refine lv_iconst (v := 0) hx hb d_T_forgetPlan_1 rfl ?_
  obtain ⟨M1, hM1, hf⟩ := xlt_some hf
  refine xr_puti hx hb hT hown hd hK hP hS sX_1 rfl inT tyT tkT nmT 7 (by decide) wf_T_36 rfl fX_1_7 rfl rfl rfl d_T_forgetPlan_2 (fun H locs hP hS => ?_)
  rw [hM1] at hP
  refine lv_aload_n hx hb d_T_forgetPlan_5 rfl (lv_at hl 0 rfl) ?_
  refine lv_iconst (v := 0) hx hb d_T_forgetPlan_6 rfl ?_
  obtain ⟨M2, hM2, hf⟩ := xlt_some hf
  refine xr_puti hx hb hT hown hd hK hP hS sX_1 rfl inT tyT tkT nmT 8 (by decide) wf_T_40 rfl fX_1_8 rfl rfl rfl d_T_forgetPlan_7 (fun H locs hP hS => ?_)
  rw [hM2] at hP
  refine lv_aload_n hx hb d_T_forgetPlan_10 rfl (lv_at hl 0 rfl) ?_
  refine xr_getr hx hb hT hown hK hP sX_1 rfl inT 6 (by decide) wf_T_33 rfl d_T_forgetPlan_11 ?_
  refine lv_iconst (v := (-1)) hx hb d_T_forgetPlan_14 rfl ?_
  obtain ⟨M3, hM3, hf⟩ := xlt_some hf
  refine xc_ws (rest := []) F hT hK hP hS (fun _ h => h) (tJA_fill l G sX_11 c3 ad hd M2 (-1)) wl_T_51 ws_JA_fill wn_JA wc_JA_fill ck_JA_fill ⟨rfl, rfl⟩ ⟨by decide, by decide⟩ ⟨by decide, by decide⟩ hl.1 rfl (Nat.le_of_ble_eq_true rfl) d_T_forgetPlan_15 (fun H locs hP hS _ => ?_)
  rw [hM3] at hP
  exact xw_vret hx hb hr hlk hP hS (Option.some.inj hf) d_T_forgetPlan_18
noncomputable def fR_vacate_51 (M : Mem) : Option (Mem) := some M
noncomputable def fR_vacate (a1 a2 : Int32) (M : Mem) : Option (Mem) := if a2 = (-1) then (fR_vacate_51  M) else (xgd (vp_in a1 6) (xgd (vp_in a2 144) (if (M (23 + 1 + a1.toNatClampNeg) a2.toNatClampNeg) = (-1) then (fR_vacate_51  M) else (xgd (vp_in a1 6) (xgd (vp_in a1 6) (xgd (vp_in a2 144) (xgd (vp_in (M (23 + 1 + a1.toNatClampNeg) a2.toNatClampNeg) 40) (xlt (up2 M (37 + 1 + a1.toNatClampNeg) ((M (23 + 1 + a1.toNatClampNeg) a2.toNatClampNeg).toNatClampNeg) (-1)) (fun M7 => xgd (vp_in a1 6) (xgd (vp_in a2 144) (xlt (up2 M7 (23 + 1 + a1.toNatClampNeg) a2.toNatClampNeg (-1)) (fun M10 => xgd (vp_in a1 6) (xgd (vp_in a2 144) (xlt (up2 M10 (30 + 1 + a1.toNatClampNeg) a2.toNatClampNeg (-1)) (fun M13 => fR_vacate_51  M13)))))))))))))))
set_option maxHeartbeats 4000000 in
set_option maxRecDepth 100000 in
theorem tR_vacate (l : Launch) (G : va_G) (c3 : ClassId × ClassId × ClassId) (ad : Nat → Nat) (hd : adI SX ad) (M : Mem) (a1 a2 : Int32) (out : Mem) (hf : fR_vacate a1 a2 M = some out) : WMet l yR_vacate cR_vacate 3 none (rm0_ 0 0) G kl SX c3 ad M [.ref (ad 18), .int a1, .int a2] none out := by
  refine WMet.of (by decide +kernel) (Nat.le_of_ble_eq_true rfl) (fun p e s m args below meth c ls F hT hK hP hr hlk hl hS => ?_)
  have hx := F.1
  have hb := F.2.1
  have F : CallFix p m c cR_vacate 3 s args gw RR := F
  have hown := F.2.2.2.1
  have hl : lv_has ls 3 [(0, .ref (ad 18)), (1, .int a1), (2, .int a2)] := hl
  revert hP hS
  suffices hall : ∀ (H : Heap) (locs : List Loc), va_P G kl (wd SX c3 ad M) H → va_S (adA SX ad) s.heap H locs → W p l e (rm0_ 0 0) s m args below meth c H locs 0 0 (MQ below (QW G kl SX c3 ad none out) args s 0 0 (adA SX ad)) (F0 m 0 ls []) from hall s.heap []
  intro H locs hP hS
  have K51 : ∀ (M : Mem) (H : Heap) (locs : List Loc) (ls : Array Slot), lv_has ls 3 [] → va_P G kl (wd SX c3 ad M) H → va_S (adA SX ad) s.heap H locs → fR_vacate_51  M = some out → W p l e (rm0_ 0 0) s m args below meth c H locs 0 0 (MQ below (QW G kl SX c3 ad none out) args s 0 0 (adA SX ad)) (F0 m 51 ls []) := by
    intro  M H locs ls  hl hP hS hf
    unfold fR_vacate_51 at hf
    exact xw_vret hx hb hr hlk hP hS (Option.some.inj hf) d_R_vacate_51
  unfold fR_vacate at hf
  refine lv_iload_n hx hb d_R_vacate_0 rfl (lv_at hl 2 rfl) ?_
  refine lv_iconst (v := (-1)) hx hb d_R_vacate_1 rfl ?_
  refine lv_icmp_eq (tgt := 51) hx hb d_R_vacate_2 rfl (fun hc => ?_) (fun hc => ?_)
  · have hf := ite_t hc hf
    exact K51  M _ _ _  (lv_sub hl [] rfl) hP hS hf
  · have hf := ite_f hc hf
    refine lv_aload_n hx hb d_R_vacate_5 rfl (lv_at hl 0 rfl) ?_
    refine xr_getr hx hb hT hown hK hP sX_18 rfl inR 4 (by decide) wf_R_27 rfl d_R_vacate_6 ?_
    refine lv_iload_n hx hb d_R_vacate_9 rfl (lv_at hl 1 rfl) ?_
    obtain ⟨g1, hf⟩ := xgd_some hf
    refine xr_aald hx hb hK hP sX_23 g1 d_R_vacate_10 ?_
    refine lv_iload_n hx hb d_R_vacate_11 rfl (lv_at hl 2 rfl) ?_
    obtain ⟨g2, hf⟩ := xgd_some hf
    refine xr_iald hx hb hK hP (sX_r23 g1) g2 d_R_vacate_12 ?_
    refine lv_iconst (v := (-1)) hx hb d_R_vacate_13 rfl ?_
    refine lv_icmp_eq (tgt := 51) hx hb d_R_vacate_14 rfl (fun hc => ?_) (fun hc => ?_)
    · have hf := ite_t hc hf
      exact K51  M _ _ _  (lv_sub hl [] rfl) hP hS hf
    · have hf := ite_f hc hf
      refine lv_aload_n hx hb d_R_vacate_17 rfl (lv_at hl 0 rfl) ?_
      refine xr_getr hx hb hT hown hK hP sX_18 rfl inR 6 (by decide) wf_R_33 rfl d_R_vacate_18 ?_
      refine lv_iload_n hx hb d_R_vacate_21 rfl (lv_at hl 1 rfl) ?_
      obtain ⟨g3, hf⟩ := xgd_some hf
      refine xr_aald hx hb hK hP sX_37 g3 d_R_vacate_22 ?_
      refine lv_aload_n hx hb d_R_vacate_23 rfl (lv_at hl 0 rfl) ?_
      refine xr_getr hx hb hT hown hK hP sX_18 rfl inR 4 (by decide) wf_R_27 rfl d_R_vacate_24 ?_
      refine lv_iload_n hx hb d_R_vacate_27 rfl (lv_at hl 1 rfl) ?_
      obtain ⟨g4, hf⟩ := xgd_some hf
      refine xr_aald hx hb hK hP sX_23 g4 d_R_vacate_28 ?_
      refine lv_iload_n hx hb d_R_vacate_29 rfl (lv_at hl 2 rfl) ?_
      obtain ⟨g5, hf⟩ := xgd_some hf
      refine xr_iald hx hb hK hP (sX_r23 g4) g5 d_R_vacate_30 ?_
      refine lv_iconst (v := (-1)) hx hb d_R_vacate_31 rfl ?_
      obtain ⟨g6, hf⟩ := xgd_some hf
      obtain ⟨M7, hM7, hf⟩ := xlt_some hf
      refine xr_iast hx hb hd hK hP hS (sX_r37 g3) g6 d_R_vacate_32 (fun H locs hP hS => ?_)
      rw [hM7] at hP
      refine lv_aload_n hx hb d_R_vacate_33 rfl (lv_at hl 0 rfl) ?_
      refine xr_getr hx hb hT hown hK hP sX_18 rfl inR 4 (by decide) wf_R_27 rfl d_R_vacate_34 ?_
      refine lv_iload_n hx hb d_R_vacate_37 rfl (lv_at hl 1 rfl) ?_
      obtain ⟨g8, hf⟩ := xgd_some hf
      refine xr_aald hx hb hK hP sX_23 g8 d_R_vacate_38 ?_
      refine lv_iload_n hx hb d_R_vacate_39 rfl (lv_at hl 2 rfl) ?_
      refine lv_iconst (v := (-1)) hx hb d_R_vacate_40 rfl ?_
      obtain ⟨g9, hf⟩ := xgd_some hf
      obtain ⟨M10, hM10, hf⟩ := xlt_some hf
      refine xr_iast hx hb hd hK hP hS (sX_r23 g8) g9 d_R_vacate_41 (fun H locs hP hS => ?_)
      rw [hM10] at hP
      refine lv_aload_n hx hb d_R_vacate_42 rfl (lv_at hl 0 rfl) ?_
      refine xr_getr hx hb hT hown hK hP sX_18 rfl inR 5 (by decide) wf_R_30 rfl d_R_vacate_43 ?_
      refine lv_iload_n hx hb d_R_vacate_46 rfl (lv_at hl 1 rfl) ?_
      obtain ⟨g11, hf⟩ := xgd_some hf
      refine xr_aald hx hb hK hP sX_30 g11 d_R_vacate_47 ?_
      refine lv_iload_n hx hb d_R_vacate_48 rfl (lv_at hl 2 rfl) ?_
      refine lv_iconst (v := (-1)) hx hb d_R_vacate_49 rfl ?_
      obtain ⟨g12, hf⟩ := xgd_some hf
      obtain ⟨M13, hM13, hf⟩ := xlt_some hf
      refine xr_iast hx hb hd hK hP hS (sX_r30 g11) g12 d_R_vacate_50 (fun H locs hP hS => ?_)
      rw [hM13] at hP
      exact K51  M13 _ _ _  (lv_sub hl [] rfl) hP hS hf
noncomputable def fR_clear_41 (M : Mem) : Option (Mem) := some M
noncomputable def fR_clear_35 (v1 : Int32) (M : Mem) : Option ((Int32 × Mem) ⊕ (Int32 × Mem)) := xlt (v1 + 1) (fun x1 => some (.inr (x1, M)))
noncomputable def gR_clear_10 (v1 : Int32) (v2 : Int32) (M : Mem) : Option ((Int32 × Mem) ⊕ (Int32 × Mem)) := if 40 ≤ v2 then (some (.inl (v2, M))) else (xgd (vp_in v1 6) (xgd (vp_in v2 40) (xbd (fR_vacate v1 (M (37 + 1 + v1.toNatClampNeg) v2.toNatClampNeg) M) (fun r4 => xlt (v2 + 1) (fun x5 => some (.inr (x5, r4)))))))
noncomputable def bR_clear_10 (v1 : Int32) : Int32 × Mem → Option ((Int32 × Mem) ⊕ (Int32 × Mem)) := fun st => gR_clear_10 v1 st.1 st.2
noncomputable def gR_clear_2 (v1 : Int32) (M : Mem) : Option ((Int32 × Mem) ⊕ (Int32 × Mem)) := if 6 ≤ v1 then (some (.inl (v1, M))) else (xbd (xlp (bR_clear_10 v1) (0, M)) (fun e10 => fR_clear_35 v1 e10.2))
noncomputable def bR_clear_2 : Int32 × Mem → Option ((Int32 × Mem) ⊕ (Int32 × Mem)) := fun st => gR_clear_2 st.1 st.2
noncomputable def fR_clear (M : Mem) : Option (Mem) := xbd (xlp (bR_clear_2) (0, M)) (fun e2 => fR_clear_41  e2.2)
set_option maxHeartbeats 4000000 in
set_option maxRecDepth 100000 in
theorem tR_clear (l : Launch) (G : va_G) (c3 : ClassId × ClassId × ClassId) (ad : Nat → Nat) (hd : adI SX ad) (M : Mem) (out : Mem) (hf : fR_clear M = some out) : WMet l yR_clear cR_clear 3 none (rm0_ 1 22) G kl SX c3 ad M [.ref (ad 18)] none out := by
  refine WMet.of (by decide +kernel) (Nat.le_of_ble_eq_true rfl) (fun p e s m args below meth c ls F hT hK hP hr hlk hl hS => ?_)
  have hx := F.1
  have hb := F.2.1
  have F : CallFix p m c cR_clear 3 s args gw RR := F
  have hown := F.2.2.2.1
  have hl : lv_has ls 3 [(0, .ref (ad 18))] := hl
  revert hP hS
  suffices hall : ∀ (H : Heap) (locs : List Loc), va_P G kl (wd SX c3 ad M) H → va_S (adA SX ad) s.heap H locs → W p l e (rm0_ 1 22) s m args below meth c H locs 0 0 (MQ below (QW G kl SX c3 ad none out) args s 0 0 (adA SX ad)) (F0 m 0 ls []) from hall s.heap []
  intro H locs hP hS
  have K41 : ∀ (M : Mem) (H : Heap) (locs : List Loc) (ls : Array Slot), lv_has ls 3 [] → va_P G kl (wd SX c3 ad M) H → va_S (adA SX ad) s.heap H locs → fR_clear_41  M = some out → W p l e (rm0_ 1 22) s m args below meth c H locs 0 0 (MQ below (QW G kl SX c3 ad none out) args s 0 0 (adA SX ad)) (F0 m 41 ls []) := by
    intro  M H locs ls  hl hP hS hf
    unfold fR_clear_41 at hf
    exact xw_vret hx hb hr hlk hP hS (Option.some.inj hf) d_R_clear_41
  unfold fR_clear at hf
  refine lv_iconst (v := 0) hx hb d_R_clear_0 rfl ?_
  refine lv_istore_n (lv' := [(1, .int 0), (0, .ref (ad 18))]) hx hb d_R_clear_1 rfl hl (by decide) rfl (fun ls hl => ?_)
  obtain ⟨e2, he2, hk2⟩ := xbd_some hf
  obtain ⟨n2, hq2⟩ := xlp_n he2
  have LH2 : ∀ (n : Nat) (v1 : Int32) (M : Mem) (H : Heap) (locs : List Loc) (ls : Array Slot), lv_has ls 3 [(0, .ref (ad 18)), (1, .int v1)] → va_P G kl (wd SX c3 ad M) H → va_S (adA SX ad) s.heap H locs → xwh (bR_clear_2) n (v1, M) = some e2 → W p l e (rm0_ 1 22) s m args below meth c H locs 0 0 (MQ below (QW G kl SX c3 ad none out) args s 0 0 (adA SX ad)) (F0 m 2 ls []) := by
    intro n
    induction n with
    | zero =>
      intro v1 M H locs ls hl hP hS hn
      exact xwh_0 hn
    | succ n ih2 =>
      intro v1 M H locs ls hl hP hS hn2
      obtain ⟨o2, hf, hn2⟩ := xwh_s hn2
      have hf : gR_clear_2 v1 M = some o2 := hf
      have K35 : ∀ (v1 : Int32) (M : Mem) (H : Heap) (locs : List Loc) (ls : Array Slot), lv_has ls 3 [(0, .ref (ad 18)), (1, .int v1)] → va_P G kl (wd SX c3 ad M) H → va_S (adA SX ad) s.heap H locs → fR_clear_35 v1 M = some o2 → W p l e (rm0_ 1 22) s m args below meth c H locs 0 0 (MQ below (QW G kl SX c3 ad none out) args s 0 0 (adA SX ad)) (F0 m 35 ls []) := by
        intro v1 M H locs ls  hl hP hS hf
        unfold fR_clear_35 at hf
        obtain ⟨x1, hx1, hf⟩ := xlt_some hf
        refine lv_iinc (k := 1) (lv' := [(1, .int x1), (0, .ref (ad 18))]) hx hb d_R_clear_35 hl rfl hx1 (by decide) rfl (fun ls hl => ?_)
        refine lv_goto (tgt := 2) hx hb d_R_clear_38 rfl ?_
        exact ih2 x1 M _ _ _ (lv_sub hl [1, 0] rfl) hP hS (xw_again hf hn2)
      unfold gR_clear_2 at hf
      refine lv_iload_n hx hb d_R_clear_2 rfl (lv_at hl 1 rfl) ?_
      refine lv_bipush (v := 6) hx hb d_R_clear_3 rfl ?_
      refine lv_icmp_ge (tgt := 41) hx hb d_R_clear_5 rfl (fun hc => ?_) (fun hc => ?_)
      · have hf := ite_t hc hf
        have he := xw_exit hf hn2
        subst he
        have hf := hk2
        exact K41  M _ _ _  (lv_sub hl [] rfl) hP hS hf
      · have hf := ite_f hc hf
        refine lv_iconst (v := 0) hx hb d_R_clear_8 rfl ?_
        refine lv_istore_n (lv' := [(2, .int 0), (0, .ref (ad 18)), (1, .int v1)]) hx hb d_R_clear_9 rfl hl (by decide) rfl (fun ls hl => ?_)
        obtain ⟨e10, he10, hk10⟩ := xbd_some hf
        obtain ⟨n10, hq10⟩ := xlp_n he10
        have LH10 : ∀ (n : Nat) (v2 : Int32) (M : Mem) (H : Heap) (locs : List Loc) (ls : Array Slot), lv_has ls 3 [(0, .ref (ad 18)), (1, .int v1), (2, .int v2)] → va_P G kl (wd SX c3 ad M) H → va_S (adA SX ad) s.heap H locs → xwh (bR_clear_10 v1) n (v2, M) = some e10 → W p l e (rm0_ 1 22) s m args below meth c H locs 0 0 (MQ below (QW G kl SX c3 ad none out) args s 0 0 (adA SX ad)) (F0 m 10 ls []) := by
          intro n
          induction n with
          | zero =>
            intro v2 M H locs ls hl hP hS hn
            exact xwh_0 hn
          | succ n ih10 =>
            intro v2 M H locs ls hl hP hS hn10
            obtain ⟨o10, hf, hn10⟩ := xwh_s hn10
            have hf : gR_clear_10 v1 v2 M = some o10 := hf
            unfold gR_clear_10 at hf
            refine lv_iload_n hx hb d_R_clear_10 rfl (lv_at hl 2 rfl) ?_
            refine lv_bipush (v := 40) hx hb d_R_clear_11 rfl ?_
            refine lv_icmp_ge (tgt := 35) hx hb d_R_clear_13 rfl (fun hc => ?_) (fun hc => ?_)
            · have hf := ite_t hc hf
              have he := xw_exit hf hn10
              subst he
              have hf := hk10
              exact K35 v1 M _ _ _  (lv_sub hl [0, 1] rfl) hP hS hf
            · have hf := ite_f hc hf
              refine lv_aload_n hx hb d_R_clear_16 rfl (lv_at hl 0 rfl) ?_
              refine lv_iload_n hx hb d_R_clear_17 rfl (lv_at hl 1 rfl) ?_
              refine lv_aload_n hx hb d_R_clear_18 rfl (lv_at hl 0 rfl) ?_
              refine xr_getr hx hb hT hown hK hP sX_18 rfl inR 6 (by decide) wf_R_33 rfl d_R_clear_19 ?_
              refine lv_iload_n hx hb d_R_clear_22 rfl (lv_at hl 1 rfl) ?_
              obtain ⟨g2, hf⟩ := xgd_some hf
              refine xr_aald hx hb hK hP sX_37 g2 d_R_clear_23 ?_
              refine lv_iload_n hx hb d_R_clear_24 rfl (lv_at hl 2 rfl) ?_
              obtain ⟨g3, hf⟩ := xgd_some hf
              refine xr_iald hx hb hK hP (sX_r37 g2) g3 d_R_clear_25 ?_
              obtain ⟨r4, hr4, hf⟩ := xbd_some hf
              refine xc_wv (rest := []) F hT hK hP hS (fun _ h => h) (tR_vacate l G c3 ad hd M v1 (M (37 + 1 + v1.toNatClampNeg) v2.toNatClampNeg) r4 hr4) sX_18 rfl wl_R_42 wi_R_vacate we_R_vacate wn_R wc_R_vacate ck_R_vacate ⟨rfl, rfl⟩ ⟨by decide, by decide⟩ ⟨Nat.le_refl _, Nat.le_refl _⟩ hl.1 rfl (Nat.le_of_ble_eq_true rfl) d_R_clear_26 (fun H locs hP hS _ => ?_)
              obtain ⟨x5, hx5, hf⟩ := xlt_some hf
              refine lv_iinc (k := 2) (lv' := [(2, .int x5), (0, .ref (ad 18)), (1, .int v1)]) hx hb d_R_clear_29 hl rfl hx5 (by decide) rfl (fun ls hl => ?_)
              refine lv_goto (tgt := 10) hx hb d_R_clear_32 rfl ?_
              exact ih10 x5 r4 _ _ _ (lv_sub hl [1, 2, 0] rfl) hP hS (xw_again hf hn10)
        exact LH10 n10 0 M _ _ _ (lv_sub hl [1, 2, 0] rfl) hP hS hq10
  exact LH2 n2 0 M _ _ _ (lv_sub hl [1, 0] rfl) hP hS hq2
noncomputable def fO_clear_24 (M : Mem) : Option (Mem) := some M
noncomputable def gO_clear_2 (v1 : Int32) (M : Mem) : Option ((Int32 × Mem) ⊕ (Int32 × Mem)) := if 6 ≤ v1 then (some (.inl (v1, M))) else (xgd (vp_in v1 6) (xlt (upA M (47 + 1 + v1.toNatClampNeg) 4 0) (fun M2 => xlt (v1 + 1) (fun x3 => some (.inr (x3, M2))))))
noncomputable def bO_clear_2 : Int32 × Mem → Option ((Int32 × Mem) ⊕ (Int32 × Mem)) := fun st => gO_clear_2 st.1 st.2
noncomputable def fO_clear (M : Mem) : Option (Mem) := xbd (xlp (bO_clear_2) (0, M)) (fun e2 => fO_clear_24  e2.2)
set_option maxHeartbeats 4000000 in
set_option maxRecDepth 100000 in
theorem tO_clear (l : Launch) (G : va_G) (c3 : ClassId × ClassId × ClassId) (ad : Nat → Nat) (hd : adI SX ad) (M : Mem) (out : Mem) (hf : fO_clear M = some out) : WMet l yO_clear cO_clear 2 none (rm0_ 1 23) G kl SX c3 ad M [.ref (ad 44)] none out := by
  refine WMet.of (by decide +kernel) (Nat.le_of_ble_eq_true rfl) (fun p e s m args below meth c ls F hT hK hP hr hlk hl hS => ?_)
  have hx := F.1
  have hb := F.2.1
  have F : CallFix p m c cO_clear 2 s args gw RO := F
  have hown := F.2.2.2.1
  have hl : lv_has ls 2 [(0, .ref (ad 44))] := hl
  revert hP hS
  suffices hall : ∀ (H : Heap) (locs : List Loc), va_P G kl (wd SX c3 ad M) H → va_S (adA SX ad) s.heap H locs → W p l e (rm0_ 1 23) s m args below meth c H locs 0 0 (MQ below (QW G kl SX c3 ad none out) args s 0 0 (adA SX ad)) (F0 m 0 ls []) from hall s.heap []
  intro H locs hP hS
  have K24 : ∀ (M : Mem) (H : Heap) (locs : List Loc) (ls : Array Slot), lv_has ls 2 [] → va_P G kl (wd SX c3 ad M) H → va_S (adA SX ad) s.heap H locs → fO_clear_24  M = some out → W p l e (rm0_ 1 23) s m args below meth c H locs 0 0 (MQ below (QW G kl SX c3 ad none out) args s 0 0 (adA SX ad)) (F0 m 24 ls []) := by
    intro  M H locs ls  hl hP hS hf
    unfold fO_clear_24 at hf
    exact xw_vret hx hb hr hlk hP hS (Option.some.inj hf) d_O_clear_24
  unfold fO_clear at hf
  refine lv_iconst (v := 0) hx hb d_O_clear_0 rfl ?_
  refine lv_istore_n (lv' := [(1, .int 0), (0, .ref (ad 44))]) hx hb d_O_clear_1 rfl hl (by decide) rfl (fun ls hl => ?_)
  obtain ⟨e2, he2, hk2⟩ := xbd_some hf
  obtain ⟨n2, hq2⟩ := xlp_n he2
  have LH2 : ∀ (n : Nat) (v1 : Int32) (M : Mem) (H : Heap) (locs : List Loc) (ls : Array Slot), lv_has ls 2 [(0, .ref (ad 44)), (1, .int v1)] → va_P G kl (wd SX c3 ad M) H → va_S (adA SX ad) s.heap H locs → xwh (bO_clear_2) n (v1, M) = some e2 → W p l e (rm0_ 1 23) s m args below meth c H locs 0 0 (MQ below (QW G kl SX c3 ad none out) args s 0 0 (adA SX ad)) (F0 m 2 ls []) := by
    intro n
    induction n with
    | zero =>
      intro v1 M H locs ls hl hP hS hn
      exact xwh_0 hn
    | succ n ih2 =>
      intro v1 M H locs ls hl hP hS hn2
      obtain ⟨o2, hf, hn2⟩ := xwh_s hn2
      have hf : gO_clear_2 v1 M = some o2 := hf
      unfold gO_clear_2 at hf
      refine lv_iload_n hx hb d_O_clear_2 rfl (lv_at hl 1 rfl) ?_
      refine lv_bipush (v := 6) hx hb d_O_clear_3 rfl ?_
      refine lv_icmp_ge (tgt := 24) hx hb d_O_clear_5 rfl (fun hc => ?_) (fun hc => ?_)
      · have hf := ite_t hc hf
        have he := xw_exit hf hn2
        subst he
        have hf := hk2
        exact K24  M _ _ _  (lv_sub hl [] rfl) hP hS hf
      · have hf := ite_f hc hf
        refine lv_aload_n hx hb d_O_clear_8 rfl (lv_at hl 0 rfl) ?_
        refine xr_getr hx hb hT hown hK hP sX_44 rfl inO 2 (by decide) wf_O_20 rfl d_O_clear_9 ?_
        refine lv_iload_n hx hb d_O_clear_12 rfl (lv_at hl 1 rfl) ?_
        obtain ⟨g1, hf⟩ := xgd_some hf
        refine xr_aald hx hb hK hP sX_47 g1 d_O_clear_13 ?_
        refine lv_iconst (v := 0) hx hb d_O_clear_14 rfl ?_
        obtain ⟨M2, hM2, hf⟩ := xlt_some hf
        refine xc_ws (rest := []) F hT hK hP hS (fun _ h => h) (tJA_fill l G (sX_r47 g1) c3 ad hd M 0) wl_O_29 ws_JA_fill wn_JA wc_JA_fill ck_JA_fill ⟨rfl, rfl⟩ ⟨by decide, by decide⟩ ⟨by decide, by decide⟩ hl.1 rfl (Nat.le_of_ble_eq_true rfl) d_O_clear_15 (fun H locs hP hS _ => ?_)
        rw [hM2] at hP
        obtain ⟨x3, hx3, hf⟩ := xlt_some hf
        refine lv_iinc (k := 1) (lv' := [(1, .int x3), (0, .ref (ad 44))]) hx hb d_O_clear_18 hl rfl hx3 (by decide) rfl (fun ls hl => ?_)
        refine lv_goto (tgt := 2) hx hb d_O_clear_21 rfl ?_
        exact ih2 x3 M2 _ _ _ (lv_sub hl [1, 0] rfl) hP hS (xw_again hf hn2)
  exact LH2 n2 0 M _ _ _ (lv_sub hl [1, 0] rfl) hP hS hq2
noncomputable def fE_dropPlan_31 (M : Mem) : Option (Mem) := some M
noncomputable def fE_dropPlan (M : Mem) : Option (Mem) := if (M 1 7) = 0 then (fE_dropPlan_31  M) else (xbd (fT_forgetPlan  M) (fun r1 => xbd (fR_clear  r1) (fun r2 => xbd (fO_clear  r2) (fun r3 => fE_dropPlan_31  r3))))
set_option maxHeartbeats 4000000 in
set_option maxRecDepth 100000 in
theorem tE_dropPlan (l : Launch) (G : va_G) (c3 : ClassId × ClassId × ClassId) (ad : Nat → Nat) (hd : adI SX ad) (M : Mem) (out : Mem) (hf : fE_dropPlan M = some out) : WMet l yE_dropPlan cE_dropPlan 1 none (rm0_ 2 44) G kl SX c3 ad M [.ref (ad 0)] none out := by
  refine WMet.of (by decide +kernel) (Nat.le_of_ble_eq_true rfl) (fun p e s m args below meth c ls F hT hK hP hr hlk hl hS => ?_)
  have hx := F.1
  have hb := F.2.1
  have F : CallFix p m c cE_dropPlan 1 s args gw RE := F
  have hown := F.2.2.2.1
  have hl : lv_has ls 1 [(0, .ref (ad 0))] := hl
  revert hP hS
  suffices hall : ∀ (H : Heap) (locs : List Loc), va_P G kl (wd SX c3 ad M) H → va_S (adA SX ad) s.heap H locs → W p l e (rm0_ 2 44) s m args below meth c H locs 0 0 (MQ below (QW G kl SX c3 ad none out) args s 0 0 (adA SX ad)) (F0 m 0 ls []) from hall s.heap []
  intro H locs hP hS
  have K31 : ∀ (M : Mem) (H : Heap) (locs : List Loc) (ls : Array Slot), lv_has ls 1 [] → va_P G kl (wd SX c3 ad M) H → va_S (adA SX ad) s.heap H locs → fE_dropPlan_31  M = some out → W p l e (rm0_ 2 44) s m args below meth c H locs 0 0 (MQ below (QW G kl SX c3 ad none out) args s 0 0 (adA SX ad)) (F0 m 31 ls []) := by
    intro  M H locs ls  hl hP hS hf
    unfold fE_dropPlan_31 at hf
    exact xw_vret hx hb hr hlk hP hS (Option.some.inj hf) d_E_dropPlan_31
  unfold fE_dropPlan at hf
  refine lv_aload_n hx hb d_E_dropPlan_0 rfl (lv_at hl 0 rfl) ?_
  refine xr_getr hx hb hT hown hK hP sX_0 rfl inE 0 (by decide) wf_E_12 rfl d_E_dropPlan_1 ?_
  refine xr_geti hx hb hT hown hK hP sX_1 rfl inT 7 (by decide) wf_E_132 rfl d_E_dropPlan_4 ?_
  refine lv_if_eq (tgt := 31) hx hb d_E_dropPlan_7 rfl (fun hc => ?_) (fun hc => ?_)
  · have hf := ite_t hc hf
    exact K31  M _ _ _  (lv_sub hl [] rfl) hP hS hf
  · have hf := ite_f hc hf
    refine lv_aload_n hx hb d_E_dropPlan_10 rfl (lv_at hl 0 rfl) ?_
    refine xr_getr hx hb hT hown hK hP sX_0 rfl inE 0 (by decide) wf_E_12 rfl d_E_dropPlan_11 ?_
    obtain ⟨r1, hr1, hf⟩ := xbd_some hf
    refine xc_wv (rest := []) F hT hK hP hS (fun _ h => h) (tT_forgetPlan l G c3 ad hd M  r1 hr1) sX_1 rfl wl_E_202 wi_T_forgetPlan we_T_forgetPlan wn_T wc_T_forgetPlan ck_T_forgetPlan ⟨rfl, rfl⟩ ⟨by decide, by decide⟩ ⟨Nat.le_refl _, Nat.le_refl _⟩ hl.1 rfl (Nat.le_of_ble_eq_true rfl) d_E_dropPlan_14 (fun H locs hP hS _ => ?_)
    refine lv_aload_n hx hb d_E_dropPlan_17 rfl (lv_at hl 0 rfl) ?_
    refine xr_getr hx hb hT hown hK hP sX_0 rfl inE 1 (by decide) wf_E_19 rfl d_E_dropPlan_18 ?_
    obtain ⟨r2, hr2, hf⟩ := xbd_some hf
    refine xc_wv (rest := []) F hT hK hP hS (fun _ h => h) (tR_clear l G c3 ad hd r1  r2 hr2) sX_18 rfl wl_E_205 wi_R_clear we_R_clear wn_R wc_R_clear ck_R_clear ⟨rfl, rfl⟩ ⟨by decide, by decide⟩ ⟨Nat.le_refl _, Nat.le_refl _⟩ hl.1 rfl (Nat.le_of_ble_eq_true rfl) d_E_dropPlan_21 (fun H locs hP hS _ => ?_)
    refine lv_aload_n hx hb d_E_dropPlan_24 rfl (lv_at hl 0 rfl) ?_
    refine xr_getr hx hb hT hown hK hP sX_0 rfl inE 2 (by decide) wf_E_26 rfl d_E_dropPlan_25 ?_
    obtain ⟨r3, hr3, hf⟩ := xbd_some hf
    refine xc_wv (rest := []) F hT hK hP hS (fun _ h => h) (tO_clear l G c3 ad hd r2  r3 hr3) sX_44 rfl wl_E_109 wi_O_clear we_O_clear wn_O wc_O_clear ck_O_clear ⟨rfl, rfl⟩ ⟨by decide, by decide⟩ ⟨Nat.le_refl _, Nat.le_refl _⟩ hl.1 rfl (Nat.le_of_ble_eq_true rfl) d_E_dropPlan_28 (fun H locs hP hS _ => ?_)
    exact K31  r3 _ _ _  (lv_sub hl [] rfl) hP hS hf
noncomputable def fE_with_19 (s19_0 : Int32) : Option (Int32) := some s19_0
noncomputable def fE_with (a0 a1 a2 : Int32) : Option (Int32) := if a2 = 0 then (fE_with_19 (a0 &&& (((1 : Int32) <<< (a1 &&& 31)) ^^^ (-1)))) else (fE_with_19 (a0 ||| ((1 : Int32) <<< (a1 &&& 31))))
set_option maxHeartbeats 4000000 in
set_option maxRecDepth 100000 in
theorem tE_with (l : Launch) (G : va_G) (c3 : ClassId × ClassId × ClassId) (ad : Nat → Nat) (M : Mem) (a0 a1 a2 : Int32) (out : Int32) (hf : fE_with a0 a1 a2 = some out) : RMet l yE_with cE_with 3 (some .int) (rm0_ 0 0) G kl SX c3 ad M [.int a0, .int a1, .int a2] out := by
  refine RMet.of (by decide +kernel) (Nat.le_of_ble_eq_true rfl) (fun p e s m args below meth c ls F hT hK hP hr hlk hl => ?_)
  have hx := F.1
  have hb := F.2.1
  have F : CallFix p m c cE_with 3 s args gw RE := F
  have hown := F.2.2.2.1
  have hl : lv_has ls 3 [(0, .int a0), (1, .int a1), (2, .int a2)] := hl
  have K19 : ∀ (s19_0 : Int32) (ls : Array Slot), lv_has ls 3 [] → fE_with_19 s19_0 = some out → W p l e (rm0_ 0 0) s m args below meth c s.heap [] 0 0 (MQ below (QcRead out) args s 0 0 (fun _ => False)) (F0 m 19 ls [.int s19_0]) := by
    intro s19_0 ls  hl hf
    unfold fE_with_19 at hf
    exact xr_iret hx hb hr hlk (Option.some.inj hf) d_E_with_19
  unfold fE_with at hf
  refine lv_iload_n hx hb d_E_with_0 rfl (lv_at hl 2 rfl) ?_
  refine lv_if_eq (tgt := 12) hx hb d_E_with_1 rfl (fun hc => ?_) (fun hc => ?_)
  · have hf := ite_t hc hf
    refine lv_iload_n hx hb d_E_with_12 rfl (lv_at hl 0 rfl) ?_
    refine lv_iconst (v := 1) hx hb d_E_with_13 rfl ?_
    refine lv_iload_n hx hb d_E_with_14 rfl (lv_at hl 1 rfl) ?_
    refine lv_ishl hx hb d_E_with_15 ?_
    refine lv_iconst (v := (-1)) hx hb d_E_with_16 rfl ?_
    refine lv_ixor hx hb d_E_with_17 ?_
    refine lv_iand hx hb d_E_with_18 ?_
    exact K19 (a0 &&& (((1 : Int32) <<< (a1 &&& 31)) ^^^ (-1))) _  (lv_sub hl [] rfl) hf
  · have hf := ite_f hc hf
    refine lv_iload_n hx hb d_E_with_4 rfl (lv_at hl 0 rfl) ?_
    refine lv_iconst (v := 1) hx hb d_E_with_5 rfl ?_
    refine lv_iload_n hx hb d_E_with_6 rfl (lv_at hl 1 rfl) ?_
    refine lv_ishl hx hb d_E_with_7 ?_
    refine lv_ior hx hb d_E_with_8 ?_
    refine lv_goto (tgt := 19) hx hb d_E_with_9 rfl ?_
    exact K19 (a0 ||| ((1 : Int32) <<< (a1 &&& 31))) _  (lv_sub hl [] rfl) hf
noncomputable def fT_heldPapers_36 (v1 : Int32) (M : Mem) : Option (Int32) := some v1
noncomputable def fT_heldPapers_26 (v2 s26_0 s26_1 s26_2 : Int32) (M : Mem) : Option ((Int32 × Int32) ⊕ (Int32 × Int32)) := xbd (fE_with s26_2 s26_1 s26_0) (fun r1 => xlt (v2 + 1) (fun x2 => some (.inr (r1, x2))))
noncomputable def gT_heldPapers_4 (M : Mem) (v1 v2 : Int32) : Option ((Int32 × Int32) ⊕ (Int32 × Int32)) := if 9 ≤ v2 then (some (.inl (v1, v2))) else (xgd (vp_in v2 9) (if (M 2 v2.toNatClampNeg) ≤ 0 then (fT_heldPapers_26 v2 0 v2 v1 M) else (fT_heldPapers_26 v2 1 v2 v1 M)))
noncomputable def bT_heldPapers_4 (M : Mem) : Int32 × Int32 → Option ((Int32 × Int32) ⊕ (Int32 × Int32)) := fun st => gT_heldPapers_4 M st.1 st.2
noncomputable def fT_heldPapers (M : Mem) : Option (Int32) := xbd (xlp (bT_heldPapers_4  M) (0, 0)) (fun e4 => fT_heldPapers_36 e4.1 M)
set_option maxHeartbeats 4000000 in
set_option maxRecDepth 100000 in
theorem tT_heldPapers (l : Launch) (G : va_G) (c3 : ClassId × ClassId × ClassId) (ad : Nat → Nat) (M : Mem) (out : Int32) (hf : fT_heldPapers M = some out) : RMet l yT_heldPapers cT_heldPapers 3 (some .int) (rm0_ 1 22) G kl SX c3 ad M [.ref (ad 1)] out := by
  refine RMet.of (by decide +kernel) (Nat.le_of_ble_eq_true rfl) (fun p e s m args below meth c ls F hT hK hP hr hlk hl => ?_)
  have hx := F.1
  have hb := F.2.1
  have F : CallFix p m c cT_heldPapers 3 s args gw RT := F
  have hown := F.2.2.2.1
  have hl : lv_has ls 3 [(0, .ref (ad 1))] := hl
  have K36 : ∀ (v1 : Int32) (ls : Array Slot), lv_has ls 3 [(1, .int v1)] → fT_heldPapers_36 v1 M = some out → W p l e (rm0_ 1 22) s m args below meth c s.heap [] 0 0 (MQ below (QcRead out) args s 0 0 (fun _ => False)) (F0 m 36 ls []) := by
    intro v1 ls  hl hf
    unfold fT_heldPapers_36 at hf
    refine lv_iload_n hx hb d_T_heldPapers_36 rfl (lv_at hl 0 rfl) ?_
    exact xr_iret hx hb hr hlk (Option.some.inj hf) d_T_heldPapers_37
  unfold fT_heldPapers at hf
  refine lv_iconst (v := 0) hx hb d_T_heldPapers_0 rfl ?_
  refine lv_istore_n (lv' := [(1, .int 0), (0, .ref (ad 1))]) hx hb d_T_heldPapers_1 rfl hl (by decide) rfl (fun ls hl => ?_)
  refine lv_iconst (v := 0) hx hb d_T_heldPapers_2 rfl ?_
  refine lv_istore_n (lv' := [(2, .int 0), (1, .int 0), (0, .ref (ad 1))]) hx hb d_T_heldPapers_3 rfl hl (by decide) rfl (fun ls hl => ?_)
  obtain ⟨e4, he4, hk4⟩ := xbd_some hf
  obtain ⟨n4, hq4⟩ := xlp_n he4
  have LH4 : ∀ (n : Nat) (v1 v2 : Int32) (ls : Array Slot), lv_has ls 3 [(0, .ref (ad 1)), (1, .int v1), (2, .int v2)] → xwh (bT_heldPapers_4  M) n (v1, v2) = some e4 → W p l e (rm0_ 1 22) s m args below meth c s.heap [] 0 0 (MQ below (QcRead out) args s 0 0 (fun _ => False)) (F0 m 4 ls []) := by
    intro n
    induction n with
    | zero =>
      intro v1 v2 ls hl hn
      exact xwh_0 hn
    | succ n ih4 =>
      intro v1 v2 ls hl hn4
      obtain ⟨o4, hf, hn4⟩ := xwh_s hn4
      have hf : gT_heldPapers_4 M v1 v2 = some o4 := hf
      have K26 : ∀ (v2 s26_0 s26_1 s26_2 : Int32) (ls : Array Slot), lv_has ls 3 [(0, .ref (ad 1)), (2, .int v2)] → fT_heldPapers_26 v2 s26_0 s26_1 s26_2 M = some o4 → W p l e (rm0_ 1 22) s m args below meth c s.heap [] 0 0 (MQ below (QcRead out) args s 0 0 (fun _ => False)) (F0 m 26 ls [.int s26_0, .int s26_1, .int s26_2]) := by
        intro v2 s26_0 s26_1 s26_2 ls  hl hf
        unfold fT_heldPapers_26 at hf
        obtain ⟨r1, hr1, hf⟩ := xbd_some hf
        refine xc_rn (rest := []) F hT hK hP (tE_with l G c3 ad M s26_2 s26_1 s26_0 r1 hr1) wm_T_61 ws_E_with wn_E wc_E_with ck_E_with ⟨rfl, rfl⟩ ⟨by decide, by decide⟩ ⟨Nat.le_refl _, Nat.le_refl _⟩ hl.1 rfl (Nat.le_of_ble_eq_true rfl) d_T_heldPapers_26 ?_
        refine lv_istore_n (lv' := [(1, .int r1), (0, .ref (ad 1)), (2, .int v2)]) hx hb d_T_heldPapers_29 rfl hl (by decide) rfl (fun ls hl => ?_)
        obtain ⟨x2, hx2, hf⟩ := xlt_some hf
        refine lv_iinc (k := 2) (lv' := [(2, .int x2), (1, .int r1), (0, .ref (ad 1))]) hx hb d_T_heldPapers_30 hl rfl hx2 (by decide) rfl (fun ls hl => ?_)
        refine lv_goto (tgt := 4) hx hb d_T_heldPapers_33 rfl ?_
        exact ih4 r1 x2 _ (lv_sub hl [2, 1, 0] rfl) (xw_again hf hn4)
      unfold gT_heldPapers_4 at hf
      refine lv_iload_n hx hb d_T_heldPapers_4 rfl (lv_at hl 2 rfl) ?_
      refine lv_bipush (v := 9) hx hb d_T_heldPapers_5 rfl ?_
      refine lv_icmp_ge (tgt := 36) hx hb d_T_heldPapers_7 rfl (fun hc => ?_) (fun hc => ?_)
      · have hf := ite_t hc hf
        have he := xw_exit hf hn4
        subst he
        have hf := hk4
        exact K36 v1 _  (lv_sub hl [1] rfl) hf
      · have hf := ite_f hc hf
        refine lv_iload_n hx hb d_T_heldPapers_10 rfl (lv_at hl 1 rfl) ?_
        refine lv_iload_n hx hb d_T_heldPapers_11 rfl (lv_at hl 2 rfl) ?_
        refine lv_aload_n hx hb d_T_heldPapers_12 rfl (lv_at hl 0 rfl) ?_
        refine xr_getr hx hb hT hown hK hP sX_1 rfl inT 0 (by decide) wf_T_9 rfl d_T_heldPapers_13 ?_
        refine lv_iload_n hx hb d_T_heldPapers_16 rfl (lv_at hl 2 rfl) ?_
        obtain ⟨g3, hf⟩ := xgd_some hf
        refine xr_iald hx hb hK hP sX_2 g3 d_T_heldPapers_17 ?_
        refine lv_if_le (tgt := 25) hx hb d_T_heldPapers_18 rfl (fun hc => ?_) (fun hc => ?_)
        · have hf := ite_t hc hf
          refine lv_iconst (v := 0) hx hb d_T_heldPapers_25 rfl ?_
          exact K26 v2 0 v2 v1 _  (lv_sub hl [0, 2] rfl) hf
        · have hf := ite_f hc hf
          refine lv_iconst (v := 1) hx hb d_T_heldPapers_21 rfl ?_
          refine lv_goto (tgt := 26) hx hb d_T_heldPapers_22 rfl ?_
          exact K26 v2 1 v2 v1 _  (lv_sub hl [0, 2] rfl) hf
  exact LH4 n4 0 0 _ (lv_sub hl [2, 1, 0] rfl) hq4
noncomputable def fE_has_13 (s13_0 : Int32) : Option (Int32) := xgd (s13_0 = 0 ∨ s13_0 = 1) (some s13_0)
noncomputable def fE_has (a0 a1 : Int32) : Option (Int32) := if (a0 &&& ((1 : Int32) <<< (a1 &&& 31))) = 0 then (fE_has_13 0) else (fE_has_13 1)
set_option maxHeartbeats 4000000 in
set_option maxRecDepth 100000 in
theorem tE_has (l : Launch) (G : va_G) (c3 : ClassId × ClassId × ClassId) (ad : Nat → Nat) (M : Mem) (a0 a1 : Int32) (out : Int32) (hf : fE_has a0 a1 = some out) : RMet l yE_has cE_has 2 (some .boolean) (rm0_ 0 0) G kl SX c3 ad M [.int a0, .int a1] out := by
  refine RMet.of (by decide +kernel) (Nat.le_of_ble_eq_true rfl) (fun p e s m args below meth c ls F hT hK hP hr hlk hl => ?_)
  have hx := F.1
  have hb := F.2.1
  have F : CallFix p m c cE_has 2 s args gw RE := F
  have hown := F.2.2.2.1
  have hl : lv_has ls 2 [(0, .int a0), (1, .int a1)] := hl
  have K13 : ∀ (s13_0 : Int32) (ls : Array Slot), lv_has ls 2 [] → fE_has_13 s13_0 = some out → W p l e (rm0_ 0 0) s m args below meth c s.heap [] 0 0 (MQ below (QcRead out) args s 0 0 (fun _ => False)) (F0 m 13 ls [.int s13_0]) := by
    intro s13_0 ls  hl hf
    unfold fE_has_13 at hf
    obtain ⟨z1, hf⟩ := xgd_some hf
    exact xr_zret hx hb hr hlk z1 (Option.some.inj hf) d_E_has_13
  unfold fE_has at hf
  refine lv_iload_n hx hb d_E_has_0 rfl (lv_at hl 0 rfl) ?_
  refine lv_iconst (v := 1) hx hb d_E_has_1 rfl ?_
  refine lv_iload_n hx hb d_E_has_2 rfl (lv_at hl 1 rfl) ?_
  refine lv_ishl hx hb d_E_has_3 ?_
  refine lv_iand hx hb d_E_has_4 ?_
  refine lv_if_eq (tgt := 12) hx hb d_E_has_5 rfl (fun hc => ?_) (fun hc => ?_)
  · have hf := ite_t hc hf
    refine lv_iconst (v := 0) hx hb d_E_has_12 rfl ?_
    exact K13 0 _  (lv_sub hl [] rfl) hf
  · have hf := ite_f hc hf
    refine lv_iconst (v := 1) hx hb d_E_has_8 rfl ?_
    refine lv_goto (tgt := 13) hx hb d_E_has_9 rfl ?_
    exact K13 1 _  (lv_sub hl [] rfl) hf
noncomputable def fT_foesOf_45 (v1 v2 : Int32) (M : Mem) : Option (Int32) := xbd (fE_with v2 v1 0) (fun r1 => some r1)
noncomputable def fT_foesOf_39 (v1 v2 v3 : Int32) (M : Mem) : Option ((Int32 × Int32) ⊕ (Int32 × Int32)) := xlt (v3 + 1) (fun x2 => some (.inr (v2, x2)))
noncomputable def gT_foesOf_11 (v1 : Int32) (M : Mem) (v2 v3 : Int32) : Option ((Int32 × Int32) ⊕ (Int32 × Int32)) := if 40 ≤ v3 then (some (.inl (v2, v3))) else (xgd (vp_in v3 40) (xbd (fE_has (M 4 v3.toNatClampNeg) v1) (fun r4 => if r4 = 0 then (fT_foesOf_39 v1 v2 v3 M) else (xgd (vp_in v3 40) (xlt ((v2 ||| (M 4 v3.toNatClampNeg))) (fun x6 => fT_foesOf_39 v1 x6 v3 M))))))
noncomputable def bT_foesOf_11 (v1 : Int32) (M : Mem) : Int32 × Int32 → Option ((Int32 × Int32) ⊕ (Int32 × Int32)) := fun st => gT_foesOf_11 v1 M st.1 st.2
noncomputable def fT_foesOf (a1 : Int32) (M : Mem) : Option (Int32) := xgd (vp_in 1 3) (xgd (vp_in a1 9) (xlt ((M (6 + 1 + (1 : Int32).toNatClampNeg) a1.toNatClampNeg)) (fun x9 => xbd (xlp (bT_foesOf_11 a1 M) (x9, 0)) (fun e11 => fT_foesOf_45 a1 e11.1 M))))
set_option maxHeartbeats 4000000 in
set_option maxRecDepth 100000 in
theorem tT_foesOf (l : Launch) (G : va_G) (c3 : ClassId × ClassId × ClassId) (ad : Nat → Nat) (M : Mem) (a1 : Int32) (out : Int32) (hf : fT_foesOf a1 M = some out) : RMet l yT_foesOf cT_foesOf 4 (some .int) (rm0_ 1 22) G kl SX c3 ad M [.ref (ad 1), .int a1] out := by
  refine RMet.of (by decide +kernel) (Nat.le_of_ble_eq_true rfl) (fun p e s m args below meth c ls F hT hK hP hr hlk hl => ?_)
  have hx := F.1
  have hb := F.2.1
  have F : CallFix p m c cT_foesOf 4 s args gw RT := F
  have hown := F.2.2.2.1
  have hl : lv_has ls 4 [(0, .ref (ad 1)), (1, .int a1)] := hl
  have K45 : ∀ (v1 v2 : Int32) (ls : Array Slot), lv_has ls 4 [(1, .int v1), (2, .int v2)] → fT_foesOf_45 v1 v2 M = some out → W p l e (rm0_ 1 22) s m args below meth c s.heap [] 0 0 (MQ below (QcRead out) args s 0 0 (fun _ => False)) (F0 m 45 ls []) := by
    intro v1 v2 ls  hl hf
    unfold fT_foesOf_45 at hf
    refine lv_iload_n hx hb d_T_foesOf_45 rfl (lv_at hl 1 rfl) ?_
    refine lv_iload_n hx hb d_T_foesOf_46 rfl (lv_at hl 0 rfl) ?_
    refine lv_iconst (v := 0) hx hb d_T_foesOf_47 rfl ?_
    obtain ⟨r1, hr1, hf⟩ := xbd_some hf
    refine xc_rn (rest := []) F hT hK hP (tE_with l G c3 ad M v2 v1 0 r1 hr1) wm_T_61 ws_E_with wn_E wc_E_with ck_E_with ⟨rfl, rfl⟩ ⟨by decide, by decide⟩ ⟨Nat.le_refl _, Nat.le_refl _⟩ hl.1 rfl (Nat.le_of_ble_eq_true rfl) d_T_foesOf_48 ?_
    exact xr_iret hx hb hr hlk (Option.some.inj hf) d_T_foesOf_51
  unfold fT_foesOf at hf
  refine lv_aload_n hx hb d_T_foesOf_0 rfl (lv_at hl 0 rfl) ?_
  refine xr_getr hx hb hT hown hK hP sX_1 rfl inT 4 (by decide) wf_T_27 rfl d_T_foesOf_1 ?_
  refine lv_iconst (v := 1) hx hb d_T_foesOf_4 rfl ?_
  obtain ⟨g2, hf⟩ := xgd_some hf
  refine xr_aald hx hb hK hP sX_6 g2 d_T_foesOf_5 ?_
  refine lv_iload_n hx hb d_T_foesOf_6 rfl (lv_at hl 1 rfl) ?_
  obtain ⟨g3, hf⟩ := xgd_some hf
  refine xr_iald hx hb hK hP (sX_r6 g2) g3 d_T_foesOf_7 ?_
  obtain ⟨x4, hx4, hf⟩ := xlt_some hf
  refine xr_name hx4 ?_
  refine lv_istore_n (lv' := [(2, .int x4), (0, .ref (ad 1)), (1, .int a1)]) hx hb d_T_foesOf_8 rfl hl (by decide) rfl (fun ls hl => ?_)
  refine lv_iconst (v := 0) hx hb d_T_foesOf_9 rfl ?_
  refine lv_istore_n (lv' := [(3, .int 0), (2, .int x4), (0, .ref (ad 1)), (1, .int a1)]) hx hb d_T_foesOf_10 rfl hl (by decide) rfl (fun ls hl => ?_)
  obtain ⟨e11, he11, hk11⟩ := xbd_some hf
  obtain ⟨n11, hq11⟩ := xlp_n he11
  have LH11 : ∀ (n : Nat) (v2 v3 : Int32) (ls : Array Slot), lv_has ls 4 [(0, .ref (ad 1)), (1, .int a1), (2, .int v2), (3, .int v3)] → xwh (bT_foesOf_11 a1 M) n (v2, v3) = some e11 → W p l e (rm0_ 1 22) s m args below meth c s.heap [] 0 0 (MQ below (QcRead out) args s 0 0 (fun _ => False)) (F0 m 11 ls []) := by
    intro n
    induction n with
    | zero =>
      intro v2 v3 ls hl hn
      exact xwh_0 hn
    | succ n ih11 =>
      intro v2 v3 ls hl hn11
      obtain ⟨o11, hf, hn11⟩ := xwh_s hn11
      have hf : gT_foesOf_11 a1 M v2 v3 = some o11 := hf
      have K39 : ∀ (v2 v3 : Int32) (ls : Array Slot), lv_has ls 4 [(0, .ref (ad 1)), (1, .int a1), (2, .int v2), (3, .int v3)] → fT_foesOf_39 a1 v2 v3 M = some o11 → W p l e (rm0_ 1 22) s m args below meth c s.heap [] 0 0 (MQ below (QcRead out) args s 0 0 (fun _ => False)) (F0 m 39 ls []) := by
        intro v2 v3 ls  hl hf
        unfold fT_foesOf_39 at hf
        obtain ⟨x5, hx5, hf⟩ := xlt_some hf
        refine lv_iinc (k := 3) (lv' := [(3, .int x5), (0, .ref (ad 1)), (1, .int a1), (2, .int v2)]) hx hb d_T_foesOf_39 hl rfl hx5 (by decide) rfl (fun ls hl => ?_)
        refine lv_goto (tgt := 11) hx hb d_T_foesOf_42 rfl ?_
        exact ih11 v2 x5 _ (lv_sub hl [1, 2, 3, 0] rfl) (xw_again hf hn11)
      unfold gT_foesOf_11 at hf
      refine lv_iload_n hx hb d_T_foesOf_11 rfl (lv_at hl 3 rfl) ?_
      refine lv_bipush (v := 40) hx hb d_T_foesOf_12 rfl ?_
      refine lv_icmp_ge (tgt := 45) hx hb d_T_foesOf_14 rfl (fun hc => ?_) (fun hc => ?_)
      · have hf := ite_t hc hf
        have he := xw_exit hf hn11
        subst he
        have hf := hk11
        exact K45 a1 v2 _  (lv_sub hl [1, 2] rfl) hf
      · have hf := ite_f hc hf
        refine lv_aload_n hx hb d_T_foesOf_17 rfl (lv_at hl 0 rfl) ?_
        refine xr_getr hx hb hT hown hK hP sX_1 rfl inT 2 (by decide) wf_T_18 rfl d_T_foesOf_18 ?_
        refine lv_iload_n hx hb d_T_foesOf_21 rfl (lv_at hl 3 rfl) ?_
        obtain ⟨g6, hf⟩ := xgd_some hf
        refine xr_iald hx hb hK hP sX_4 g6 d_T_foesOf_22 ?_
        refine lv_iload_n hx hb d_T_foesOf_23 rfl (lv_at hl 1 rfl) ?_
        obtain ⟨r7, hr7, hf⟩ := xbd_some hf
        refine xc_rn (rest := []) F hT hK hP (tE_has l G c3 ad M (M 4 v3.toNatClampNeg) a1 r7 hr7) wm_T_57 ws_E_has wn_E wc_E_has ck_E_has ⟨rfl, rfl⟩ ⟨by decide, by decide⟩ ⟨Nat.le_refl _, Nat.le_refl _⟩ hl.1 rfl (Nat.le_of_ble_eq_true rfl) d_T_foesOf_24 ?_
        refine lv_if_eq (tgt := 39) hx hb d_T_foesOf_27 rfl (fun hc => ?_) (fun hc => ?_)
        · have hf := ite_t hc hf
          exact K39 v2 v3 _  hl hf
        · have hf := ite_f hc hf
          refine lv_iload_n hx hb d_T_foesOf_30 rfl (lv_at hl 2 rfl) ?_
          refine lv_aload_n hx hb d_T_foesOf_31 rfl (lv_at hl 0 rfl) ?_
          refine xr_getr hx hb hT hown hK hP sX_1 rfl inT 2 (by decide) wf_T_18 rfl d_T_foesOf_32 ?_
          refine lv_iload_n hx hb d_T_foesOf_35 rfl (lv_at hl 3 rfl) ?_
          obtain ⟨g8, hf⟩ := xgd_some hf
          refine xr_iald hx hb hK hP sX_4 g8 d_T_foesOf_36 ?_
          refine lv_ior hx hb d_T_foesOf_37 ?_
          obtain ⟨x9, hx9, hf⟩ := xlt_some hf
          refine xr_name hx9 ?_
          refine lv_istore_n (lv' := [(2, .int x9), (0, .ref (ad 1)), (1, .int a1), (3, .int v3)]) hx hb d_T_foesOf_38 rfl hl (by decide) rfl (fun ls hl => ?_)
          exact K39 x9 v3 _  (lv_sub hl [1, 2, 0, 3] rfl) hf
  exact LH11 n11 x4 0 _ (lv_sub hl [2, 3, 1, 0] rfl) hq11
noncomputable def fP_gatherRules_112 (M : Mem) : Option (Mem) := some M
noncomputable def fP_gatherRules_106 (v2 : Int32) (M : Mem) : Option ((Int32 × Mem) ⊕ (Int32 × Mem)) := xlt (v2 + 1) (fun x1 => some (.inr (x1, M)))
noncomputable def gP_gatherRules_51 (v2 v3 v4 : Int32) (v5 : Int32) (M : Mem) : Option ((Int32 × Mem) ⊕ (Int32 × Mem)) := if ((1 : Int32) <<< (v2 &&& 31)) ≤ v5 then (some (.inl (v5, M))) else (xgd (vp_in v5 512) (xgd (vp_in (v5 ||| ((1 : Int32) <<< (v2 &&& 31))) 512) (xlt (up2 M 15 ((v5 ||| ((1 : Int32) <<< (v2 &&& 31))).toNatClampNeg) ((M 15 v5.toNatClampNeg) ||| v3)) (fun M4 => xgd (vp_in v5 512) (xgd (vp_in (v5 ||| ((1 : Int32) <<< (v2 &&& 31))) 512) (xlt (up2 M4 16 ((v5 ||| ((1 : Int32) <<< (v2 &&& 31))).toNatClampNeg) ((M4 16 v5.toNatClampNeg) ||| v4)) (fun M7 => xlt (v5 + 1) (fun x8 => some (.inr (x8, M7))))))))))
noncomputable def bP_gatherRules_51 (v2 v3 v4 : Int32) : Int32 × Mem → Option ((Int32 × Mem) ⊕ (Int32 × Mem)) := fun st => gP_gatherRules_51 v2 v3 v4 st.1 st.2
noncomputable def gP_gatherRules_2 (v2 : Int32) (M : Mem) : Option ((Int32 × Mem) ⊕ (Int32 × Mem)) := if 9 ≤ v2 then (some (.inl (v2, M))) else (xbd (fT_foesOf v2 M) (fun r9 => xgd (vp_in 0 3) (xgd (vp_in v2 9) (xlt (((M (6 + 1 + (0 : Int32).toNatClampNeg) v2.toNatClampNeg) &&& (M 12 5))) (fun x12 => xgd (vp_in 2 3) (xgd (vp_in v2 9) (xgd (vp_in v2 9) (xlt (up2 M 17 v2.toNatClampNeg ((M (6 + 1 + (2 : Int32).toNatClampNeg) v2.toNatClampNeg) &&& (M 12 5))) (fun M16 => xbd (xlp (bP_gatherRules_51 v2 r9 x12) (0, M16)) (fun e51 => fP_gatherRules_106 v2 e51.2))))))))))
noncomputable def bP_gatherRules_2 : Int32 × Mem → Option ((Int32 × Mem) ⊕ (Int32 × Mem)) := fun st => gP_gatherRules_2 st.1 st.2
noncomputable def fP_gatherRules (M : Mem) : Option (Mem) := xbd (xlp (bP_gatherRules_2) (0, M)) (fun e2 => fP_gatherRules_112  e2.2)
set_option maxHeartbeats 4000000 in
set_option maxRecDepth 100000 in
theorem tP_gatherRules (l : Launch) (G : va_G) (c3 : ClassId × ClassId × ClassId) (ad : Nat → Nat) (hd : adI SX ad) (M : Mem) (out : Mem) (hf : fP_gatherRules M = some out) : WMet l yP_gatherRules cP_gatherRules 6 none (rm0_ 2 45) G kl SX c3 ad M [.ref (ad 12), .ref (ad 1)] none out := by
  refine WMet.of (by decide +kernel) (Nat.le_of_ble_eq_true rfl) (fun p e s m args below meth c ls F hT hK hP hr hlk hl hS => ?_)
  have hx := F.1
  have hb := F.2.1
  have F : CallFix p m c cP_gatherRules 6 s args gw RP := F
  have hown := F.2.2.2.1
  have hl : lv_has ls 6 [(0, .ref (ad 12)), (1, .ref (ad 1))] := hl
  revert hP hS
  suffices hall : ∀ (H : Heap) (locs : List Loc), va_P G kl (wd SX c3 ad M) H → va_S (adA SX ad) s.heap H locs → W p l e (rm0_ 2 45) s m args below meth c H locs 0 0 (MQ below (QW G kl SX c3 ad none out) args s 0 0 (adA SX ad)) (F0 m 0 ls []) from hall s.heap []
  intro H locs hP hS
  have K112 : ∀ (M : Mem) (H : Heap) (locs : List Loc) (ls : Array Slot), lv_has ls 6 [] → va_P G kl (wd SX c3 ad M) H → va_S (adA SX ad) s.heap H locs → fP_gatherRules_112  M = some out → W p l e (rm0_ 2 45) s m args below meth c H locs 0 0 (MQ below (QW G kl SX c3 ad none out) args s 0 0 (adA SX ad)) (F0 m 112 ls []) := by
    intro  M H locs ls  hl hP hS hf
    unfold fP_gatherRules_112 at hf
    exact xw_vret hx hb hr hlk hP hS (Option.some.inj hf) d_P_gatherRules_112
  unfold fP_gatherRules at hf
  refine lv_iconst (v := 0) hx hb d_P_gatherRules_0 rfl ?_
  refine lv_istore_n (lv' := [(2, .int 0), (0, .ref (ad 12)), (1, .ref (ad 1))]) hx hb d_P_gatherRules_1 rfl hl (by decide) rfl (fun ls hl => ?_)
  obtain ⟨e2, he2, hk2⟩ := xbd_some hf
  obtain ⟨n2, hq2⟩ := xlp_n he2
  have LH2 : ∀ (n : Nat) (v2 : Int32) (M : Mem) (H : Heap) (locs : List Loc) (ls : Array Slot), lv_has ls 6 [(0, .ref (ad 12)), (1, .ref (ad 1)), (2, .int v2)] → va_P G kl (wd SX c3 ad M) H → va_S (adA SX ad) s.heap H locs → xwh (bP_gatherRules_2) n (v2, M) = some e2 → W p l e (rm0_ 2 45) s m args below meth c H locs 0 0 (MQ below (QW G kl SX c3 ad none out) args s 0 0 (adA SX ad)) (F0 m 2 ls []) := by
    intro n
    induction n with
    | zero =>
      intro v2 M H locs ls hl hP hS hn
      exact xwh_0 hn
    | succ n ih2 =>
      intro v2 M H locs ls hl hP hS hn2
      obtain ⟨o2, hf, hn2⟩ := xwh_s hn2
      have hf : gP_gatherRules_2 v2 M = some o2 := hf
      have K106 : ∀ (v2 : Int32) (M : Mem) (H : Heap) (locs : List Loc) (ls : Array Slot), lv_has ls 6 [(0, .ref (ad 12)), (1, .ref (ad 1)), (2, .int v2)] → va_P G kl (wd SX c3 ad M) H → va_S (adA SX ad) s.heap H locs → fP_gatherRules_106 v2 M = some o2 → W p l e (rm0_ 2 45) s m args below meth c H locs 0 0 (MQ below (QW G kl SX c3 ad none out) args s 0 0 (adA SX ad)) (F0 m 106 ls []) := by
        intro v2 M H locs ls  hl hP hS hf
        unfold fP_gatherRules_106 at hf
        obtain ⟨x1, hx1, hf⟩ := xlt_some hf
        refine lv_iinc (k := 2) (lv' := [(2, .int x1), (0, .ref (ad 12)), (1, .ref (ad 1))]) hx hb d_P_gatherRules_106 hl rfl hx1 (by decide) rfl (fun ls hl => ?_)
        refine lv_goto (tgt := 2) hx hb d_P_gatherRules_109 rfl ?_
        exact ih2 x1 M _ _ _ (lv_sub hl [1, 2, 0] rfl) hP hS (xw_again hf hn2)
      unfold gP_gatherRules_2 at hf
      refine lv_iload_n hx hb d_P_gatherRules_2 rfl (lv_at hl 2 rfl) ?_
      refine lv_bipush (v := 9) hx hb d_P_gatherRules_3 rfl ?_
      refine lv_icmp_ge (tgt := 112) hx hb d_P_gatherRules_5 rfl (fun hc => ?_) (fun hc => ?_)
      · have hf := ite_t hc hf
        have he := xw_exit hf hn2
        subst he
        have hf := hk2
        exact K112  M _ _ _  (lv_sub hl [] rfl) hP hS hf
      · have hf := ite_f hc hf
        refine lv_aload_n hx hb d_P_gatherRules_8 rfl (lv_at hl 1 rfl) ?_
        refine lv_iload_n hx hb d_P_gatherRules_9 rfl (lv_at hl 2 rfl) ?_
        obtain ⟨r2, hr2, hf⟩ := xbd_some hf
        refine xc_rv (rest := []) F hT hK hP (tT_foesOf l G c3 ad M v2 r2 hr2) sX_1 rfl wl_P_57 wi_T_foesOf we_T_foesOf wn_T wc_T_foesOf ck_T_foesOf ⟨rfl, rfl⟩ ⟨by decide, by decide⟩ ⟨Nat.le_refl _, Nat.le_refl _⟩ hl.1 rfl (Nat.le_of_ble_eq_true rfl) d_P_gatherRules_10 ?_
        refine lv_istore_n (lv' := [(3, .int r2), (0, .ref (ad 12)), (1, .ref (ad 1)), (2, .int v2)]) hx hb d_P_gatherRules_13 rfl hl (by decide) rfl (fun ls hl => ?_)
        refine lv_aload_n hx hb d_P_gatherRules_14 rfl (lv_at hl 2 rfl) ?_
        refine xr_getr hx hb hT hown hK hP sX_1 rfl inT 4 (by decide) wf_P_60 rfl d_P_gatherRules_15 ?_
        refine lv_iconst (v := 0) hx hb d_P_gatherRules_18 rfl ?_
        obtain ⟨g3, hf⟩ := xgd_some hf
        refine xr_aald hx hb hK hP sX_6 g3 d_P_gatherRules_19 ?_
        refine lv_iload_n hx hb d_P_gatherRules_20 rfl (lv_at hl 3 rfl) ?_
        obtain ⟨g4, hf⟩ := xgd_some hf
        refine xr_iald hx hb hK hP (sX_r6 g3) g4 d_P_gatherRules_21 ?_
        refine lv_aload_n hx hb d_P_gatherRules_22 rfl (lv_at hl 1 rfl) ?_
        refine xr_geti hx hb hT hown hK hP sX_12 rfl inP 5 (by decide) wf_P_27 rfl d_P_gatherRules_23 ?_
        refine lv_iand hx hb d_P_gatherRules_26 ?_
        obtain ⟨x5, hx5, hf⟩ := xlt_some hf
        refine xr_name hx5 ?_
        refine lv_istore (lv' := [(4, .int x5), (3, .int r2), (0, .ref (ad 12)), (1, .ref (ad 1)), (2, .int v2)]) hx hb d_P_gatherRules_27 hl (by decide) rfl (fun ls hl => ?_)
        refine lv_aload_n hx hb d_P_gatherRules_29 rfl (lv_at hl 2 rfl) ?_
        refine xr_getr hx hb hT hown hK hP sX_12 rfl inP 4 (by decide) wf_P_24 rfl d_P_gatherRules_30 ?_
        refine lv_iload_n hx hb d_P_gatherRules_33 rfl (lv_at hl 4 rfl) ?_
        refine lv_aload_n hx hb d_P_gatherRules_34 rfl (lv_at hl 3 rfl) ?_
        refine xr_getr hx hb hT hown hK hP sX_1 rfl inT 4 (by decide) wf_P_60 rfl d_P_gatherRules_35 ?_
        refine lv_iconst (v := 2) hx hb d_P_gatherRules_38 rfl ?_
        obtain ⟨g6, hf⟩ := xgd_some hf
        refine xr_aald hx hb hK hP sX_6 g6 d_P_gatherRules_39 ?_
        refine lv_iload_n hx hb d_P_gatherRules_40 rfl (lv_at hl 4 rfl) ?_
        obtain ⟨g7, hf⟩ := xgd_some hf
        refine xr_iald hx hb hK hP (sX_r6 g6) g7 d_P_gatherRules_41 ?_
        refine lv_aload_n hx hb d_P_gatherRules_42 rfl (lv_at hl 2 rfl) ?_
        refine xr_geti hx hb hT hown hK hP sX_12 rfl inP 5 (by decide) wf_P_27 rfl d_P_gatherRules_43 ?_
        refine lv_iand hx hb d_P_gatherRules_46 ?_
        obtain ⟨g8, hf⟩ := xgd_some hf
        obtain ⟨M9, hM9, hf⟩ := xlt_some hf
        refine xr_iast hx hb hd hK hP hS sX_17 g8 d_P_gatherRules_47 (fun H locs hP hS => ?_)
        rw [hM9] at hP
        refine lv_iconst (v := 0) hx hb d_P_gatherRules_48 rfl ?_
        refine lv_istore (lv' := [(5, .int 0), (4, .int x5), (3, .int r2), (0, .ref (ad 12)), (1, .ref (ad 1)), (2, .int v2)]) hx hb d_P_gatherRules_49 hl (by decide) rfl (fun ls hl => ?_)
        obtain ⟨e51, he51, hk51⟩ := xbd_some hf
        obtain ⟨n51, hq51⟩ := xlp_n he51
        have LH51 : ∀ (n : Nat) (v5 : Int32) (M : Mem) (H : Heap) (locs : List Loc) (ls : Array Slot), lv_has ls 6 [(0, .ref (ad 12)), (1, .ref (ad 1)), (2, .int v2), (3, .int r2), (4, .int x5), (5, .int v5)] → va_P G kl (wd SX c3 ad M) H → va_S (adA SX ad) s.heap H locs → xwh (bP_gatherRules_51 v2 r2 x5) n (v5, M) = some e51 → W p l e (rm0_ 2 45) s m args below meth c H locs 0 0 (MQ below (QW G kl SX c3 ad none out) args s 0 0 (adA SX ad)) (F0 m 51 ls []) := by
          intro n
          induction n with
          | zero =>
            intro v5 M H locs ls hl hP hS hn
            exact xwh_0 hn
          | succ n ih51 =>
            intro v5 M H locs ls hl hP hS hn51
            obtain ⟨o51, hf, hn51⟩ := xwh_s hn51
            have hf : gP_gatherRules_51 v2 r2 x5 v5 M = some o51 := hf
            unfold gP_gatherRules_51 at hf
            refine lv_iload hx hb d_P_gatherRules_51 (lv_at hl 5 rfl) ?_
            refine lv_iconst (v := 1) hx hb d_P_gatherRules_53 rfl ?_
            refine lv_iload_n hx hb d_P_gatherRules_54 rfl (lv_at hl 2 rfl) ?_
            refine lv_ishl hx hb d_P_gatherRules_55 ?_
            refine lv_icmp_ge (tgt := 106) hx hb d_P_gatherRules_56 rfl (fun hc => ?_) (fun hc => ?_)
            · have hf := ite_t hc hf
              have he := xw_exit hf hn51
              subst he
              have hf := hk51
              exact K106 v2 M _ _ _  (lv_sub hl [0, 1, 2] rfl) hP hS hf
            · have hf := ite_f hc hf
              refine lv_aload_n hx hb d_P_gatherRules_59 rfl (lv_at hl 0 rfl) ?_
              refine xr_getr hx hb hT hown hK hP sX_12 rfl inP 2 (by decide) wf_P_18 rfl d_P_gatherRules_60 ?_
              refine lv_iload hx hb d_P_gatherRules_63 (lv_at hl 5 rfl) ?_
              refine lv_iconst (v := 1) hx hb d_P_gatherRules_65 rfl ?_
              refine lv_iload_n hx hb d_P_gatherRules_66 rfl (lv_at hl 2 rfl) ?_
              refine lv_ishl hx hb d_P_gatherRules_67 ?_
              refine lv_ior hx hb d_P_gatherRules_68 ?_
              refine lv_aload_n hx hb d_P_gatherRules_69 rfl (lv_at hl 0 rfl) ?_
              refine xr_getr hx hb hT hown hK hP sX_12 rfl inP 2 (by decide) wf_P_18 rfl d_P_gatherRules_70 ?_
              refine lv_iload hx hb d_P_gatherRules_73 (lv_at hl 5 rfl) ?_
              obtain ⟨g10, hf⟩ := xgd_some hf
              refine xr_iald hx hb hK hP sX_15 g10 d_P_gatherRules_75 ?_
              refine lv_iload_n hx hb d_P_gatherRules_76 rfl (lv_at hl 3 rfl) ?_
              refine lv_ior hx hb d_P_gatherRules_77 ?_
              obtain ⟨g11, hf⟩ := xgd_some hf
              obtain ⟨M12, hM12, hf⟩ := xlt_some hf
              refine xr_iast hx hb hd hK hP hS sX_15 g11 d_P_gatherRules_78 (fun H locs hP hS => ?_)
              rw [hM12] at hP
              refine lv_aload_n hx hb d_P_gatherRules_79 rfl (lv_at hl 0 rfl) ?_
              refine xr_getr hx hb hT hown hK hP sX_12 rfl inP 3 (by decide) wf_P_21 rfl d_P_gatherRules_80 ?_
              refine lv_iload hx hb d_P_gatherRules_83 (lv_at hl 5 rfl) ?_
              refine lv_iconst (v := 1) hx hb d_P_gatherRules_85 rfl ?_
              refine lv_iload_n hx hb d_P_gatherRules_86 rfl (lv_at hl 2 rfl) ?_
              refine lv_ishl hx hb d_P_gatherRules_87 ?_
              refine lv_ior hx hb d_P_gatherRules_88 ?_
              refine lv_aload_n hx hb d_P_gatherRules_89 rfl (lv_at hl 0 rfl) ?_
              refine xr_getr hx hb hT hown hK hP sX_12 rfl inP 3 (by decide) wf_P_21 rfl d_P_gatherRules_90 ?_
              refine lv_iload hx hb d_P_gatherRules_93 (lv_at hl 5 rfl) ?_
              obtain ⟨g13, hf⟩ := xgd_some hf
              refine xr_iald hx hb hK hP sX_16 g13 d_P_gatherRules_95 ?_
              refine lv_iload hx hb d_P_gatherRules_96 (lv_at hl 4 rfl) ?_
              refine lv_ior hx hb d_P_gatherRules_98 ?_
              obtain ⟨g14, hf⟩ := xgd_some hf
              obtain ⟨M15, hM15, hf⟩ := xlt_some hf
              refine xr_iast hx hb hd hK hP hS sX_16 g14 d_P_gatherRules_99 (fun H locs hP hS => ?_)
              rw [hM15] at hP
              obtain ⟨x16, hx16, hf⟩ := xlt_some hf
              refine lv_iinc (k := 5) (lv' := [(5, .int x16), (0, .ref (ad 12)), (1, .ref (ad 1)), (2, .int v2), (3, .int r2), (4, .int x5)]) hx hb d_P_gatherRules_100 hl rfl hx16 (by decide) rfl (fun ls hl => ?_)
              refine lv_goto (tgt := 51) hx hb d_P_gatherRules_103 rfl ?_
              exact ih51 x16 M15 _ _ _ (lv_sub hl [1, 2, 3, 4, 5, 0] rfl) hP hS (xw_again hf hn51)
        exact LH51 n51 0 M9 _ _ _ (lv_sub hl [3, 4, 5, 2, 1, 0] rfl) hP hS hq51
  exact LH2 n2 0 M _ _ _ (lv_sub hl [1, 2, 0] rfl) hP hS hq2
noncomputable def fT_papersFitting_73 (v2 : Int32) (M : Mem) : Option (Int32) := some v2
noncomputable def fT_papersFitting_67 (v1 v2 v3 : Int32) (M : Mem) : Option ((Int32 × Int32) ⊕ (Int32 × Int32)) := xlt (v3 + 1) (fun x1 => some (.inr (v2, x1)))
noncomputable def fT_papersFitting_60 (v1 v2 v3 : Int32) (M : Mem) : Option ((Int32 × Int32) ⊕ (Int32 × Int32)) := xbd (fE_with v2 v3 0) (fun r2 => fT_papersFitting_67 v1 r2 v3 M)
noncomputable def fT_papersFitting_38 (v1 v2 v3 s38_0 : Int32) (M : Mem) : Option ((Int32 × Int32) ⊕ (Int32 × Int32)) := if s38_0 = 0 then (xgd (vp_in v3 9) (xgd (vp_in v1 6) (if (M 2 v3.toNatClampNeg) ≤ (M 3 v1.toNatClampNeg) then (fT_papersFitting_67 v1 v2 v3 M) else (fT_papersFitting_60 v1 v2 v3 M)))) else (fT_papersFitting_60 v1 v2 v3 M)
noncomputable def fT_papersFitting_37 (v1 v2 v3 : Int32) (M : Mem) : Option ((Int32 × Int32) ⊕ (Int32 × Int32)) := fT_papersFitting_38 v1 v2 v3 0 M
noncomputable def gT_papersFitting_7 (v1 : Int32) (M : Mem) (v2 v3 : Int32) : Option ((Int32 × Int32) ⊕ (Int32 × Int32)) := if 9 ≤ v3 then (some (.inl (v2, v3))) else (xgd (vp_in v3 9) (if (M 10 v3.toNatClampNeg) = (-1) then (fT_papersFitting_37 v1 v2 v3 M) else (xgd (vp_in v3 9) (if (M 10 v3.toNatClampNeg) = v1 then (fT_papersFitting_37 v1 v2 v3 M) else (fT_papersFitting_38 v1 v2 v3 1 M)))))
noncomputable def bT_papersFitting_7 (v1 : Int32) (M : Mem) : Int32 × Int32 → Option ((Int32 × Int32) ⊕ (Int32 × Int32)) := fun st => gT_papersFitting_7 v1 M st.1 st.2
noncomputable def fT_papersFitting (a1 : Int32) (M : Mem) : Option (Int32) := xbd (fT_heldPapers  M) (fun r7 => xbd (xlp (bT_papersFitting_7 a1 M) (r7, 0)) (fun e7 => fT_papersFitting_73 e7.1 M))
set_option maxHeartbeats 4000000 in
set_option maxRecDepth 100000 in
theorem tT_papersFitting (l : Launch) (G : va_G) (c3 : ClassId × ClassId × ClassId) (ad : Nat → Nat) (M : Mem) (a1 : Int32) (out : Int32) (hf : fT_papersFitting a1 M = some out) : RMet l yT_papersFitting cT_papersFitting 5 (some .int) (rm0_ 2 44) G kl SX c3 ad M [.ref (ad 1), .int a1] out := by
  refine RMet.of (by decide +kernel) (Nat.le_of_ble_eq_true rfl) (fun p e s m args below meth c ls F hT hK hP hr hlk hl => ?_)
  have hx := F.1
  have hb := F.2.1
  have F : CallFix p m c cT_papersFitting 5 s args gw RT := F
  have hown := F.2.2.2.1
  have hl : lv_has ls 5 [(0, .ref (ad 1)), (1, .int a1)] := hl
  have K73 : ∀ (v2 : Int32) (ls : Array Slot), lv_has ls 5 [(2, .int v2)] → fT_papersFitting_73 v2 M = some out → W p l e (rm0_ 2 44) s m args below meth c s.heap [] 0 0 (MQ below (QcRead out) args s 0 0 (fun _ => False)) (F0 m 73 ls []) := by
    intro v2 ls  hl hf
    unfold fT_papersFitting_73 at hf
    refine lv_iload_n hx hb d_T_papersFitting_73 rfl (lv_at hl 0 rfl) ?_
    exact xr_iret hx hb hr hlk (Option.some.inj hf) d_T_papersFitting_74
  unfold fT_papersFitting at hf
  refine lv_aload_n hx hb d_T_papersFitting_0 rfl (lv_at hl 0 rfl) ?_
  obtain ⟨r1, hr1, hf⟩ := xbd_some hf
  refine xc_rv (rest := []) F hT hK hP (tT_heldPapers l G c3 ad M  r1 hr1) sX_1 rfl wl_T_71 wi_T_heldPapers we_T_heldPapers wn_T wc_T_heldPapers ck_T_heldPapers ⟨rfl, rfl⟩ ⟨by decide, by decide⟩ ⟨Nat.le_refl _, Nat.le_refl _⟩ hl.1 rfl (Nat.le_of_ble_eq_true rfl) d_T_papersFitting_1 ?_
  refine lv_istore_n (lv' := [(2, .int r1), (0, .ref (ad 1)), (1, .int a1)]) hx hb d_T_papersFitting_4 rfl hl (by decide) rfl (fun ls hl => ?_)
  refine lv_iconst (v := 0) hx hb d_T_papersFitting_5 rfl ?_
  refine lv_istore_n (lv' := [(3, .int 0), (2, .int r1), (0, .ref (ad 1)), (1, .int a1)]) hx hb d_T_papersFitting_6 rfl hl (by decide) rfl (fun ls hl => ?_)
  obtain ⟨e7, he7, hk7⟩ := xbd_some hf
  obtain ⟨n7, hq7⟩ := xlp_n he7
  have LH7 : ∀ (n : Nat) (v2 v3 : Int32) (ls : Array Slot), lv_has ls 5 [(0, .ref (ad 1)), (1, .int a1), (2, .int v2), (3, .int v3)] → xwh (bT_papersFitting_7 a1 M) n (v2, v3) = some e7 → W p l e (rm0_ 2 44) s m args below meth c s.heap [] 0 0 (MQ below (QcRead out) args s 0 0 (fun _ => False)) (F0 m 7 ls []) := by
    intro n
    induction n with
    | zero =>
      intro v2 v3 ls hl hn
      exact xwh_0 hn
    | succ n ih7 =>
      intro v2 v3 ls hl hn7
      obtain ⟨o7, hf, hn7⟩ := xwh_s hn7
      have hf : gT_papersFitting_7 a1 M v2 v3 = some o7 := hf
      have K67 : ∀ (v2 v3 : Int32) (ls : Array Slot), lv_has ls 5 [(0, .ref (ad 1)), (1, .int a1), (2, .int v2), (3, .int v3)] → fT_papersFitting_67 a1 v2 v3 M = some o7 → W p l e (rm0_ 2 44) s m args below meth c s.heap [] 0 0 (MQ below (QcRead out) args s 0 0 (fun _ => False)) (F0 m 67 ls []) := by
        intro v2 v3 ls  hl hf
        unfold fT_papersFitting_67 at hf
        obtain ⟨x2, hx2, hf⟩ := xlt_some hf
        refine lv_iinc (k := 3) (lv' := [(3, .int x2), (0, .ref (ad 1)), (1, .int a1), (2, .int v2)]) hx hb d_T_papersFitting_67 hl rfl hx2 (by decide) rfl (fun ls hl => ?_)
        refine lv_goto (tgt := 7) hx hb d_T_papersFitting_70 rfl ?_
        exact ih7 v2 x2 _ (lv_sub hl [1, 2, 3, 0] rfl) (xw_again hf hn7)
      have K60 : ∀ (v2 v3 : Int32) (ls : Array Slot), lv_has ls 5 [(0, .ref (ad 1)), (1, .int a1), (2, .int v2), (3, .int v3)] → fT_papersFitting_60 a1 v2 v3 M = some o7 → W p l e (rm0_ 2 44) s m args below meth c s.heap [] 0 0 (MQ below (QcRead out) args s 0 0 (fun _ => False)) (F0 m 60 ls []) := by
        intro v2 v3 ls  hl hf
        unfold fT_papersFitting_60 at hf
        refine lv_iload_n hx hb d_T_papersFitting_60 rfl (lv_at hl 2 rfl) ?_
        refine lv_iload_n hx hb d_T_papersFitting_61 rfl (lv_at hl 3 rfl) ?_
        refine lv_iconst (v := 0) hx hb d_T_papersFitting_62 rfl ?_
        obtain ⟨r3, hr3, hf⟩ := xbd_some hf
        refine xc_rn (rest := []) F hT hK hP (tE_with l G c3 ad M v2 v3 0 r3 hr3) wm_T_61 ws_E_with wn_E wc_E_with ck_E_with ⟨rfl, rfl⟩ ⟨by decide, by decide⟩ ⟨Nat.le_refl _, Nat.le_refl _⟩ hl.1 rfl (Nat.le_of_ble_eq_true rfl) d_T_papersFitting_63 ?_
        refine lv_istore_n (lv' := [(2, .int r3), (0, .ref (ad 1)), (1, .int a1), (3, .int v3)]) hx hb d_T_papersFitting_66 rfl hl (by decide) rfl (fun ls hl => ?_)
        exact K67 r3 v3 _  (lv_sub hl [1, 2, 0, 3] rfl) hf
      have K38 : ∀ (v2 v3 s38_0 : Int32) (ls : Array Slot), lv_has ls 5 [(0, .ref (ad 1)), (1, .int a1), (2, .int v2), (3, .int v3)] → fT_papersFitting_38 a1 v2 v3 s38_0 M = some o7 → W p l e (rm0_ 2 44) s m args below meth c s.heap [] 0 0 (MQ below (QcRead out) args s 0 0 (fun _ => False)) (F0 m 38 ls [.int s38_0]) := by
        intro v2 v3 s38_0 ls  hl hf
        unfold fT_papersFitting_38 at hf
        refine lv_istore (lv' := [(4, .int s38_0), (0, .ref (ad 1)), (1, .int a1), (2, .int v2), (3, .int v3)]) hx hb d_T_papersFitting_38 hl (by decide) rfl (fun ls hl => ?_)
        refine lv_iload hx hb d_T_papersFitting_40 (lv_at hl 0 rfl) ?_
        refine lv_if_ne (tgt := 60) hx hb d_T_papersFitting_42 rfl (fun hc => ?_) (fun hc => ?_)
        · have hf := ite_f hc hf
          exact K60 v2 v3 _  (lv_sub hl [1, 2, 3, 4] rfl) hf
        · have hf := ite_t hc hf
          refine lv_aload_n hx hb d_T_papersFitting_45 rfl (lv_at hl 1 rfl) ?_
          refine xr_getr hx hb hT hown hK hP sX_1 rfl inT 0 (by decide) wf_T_9 rfl d_T_papersFitting_46 ?_
          refine lv_iload_n hx hb d_T_papersFitting_49 rfl (lv_at hl 4 rfl) ?_
          obtain ⟨g4, hf⟩ := xgd_some hf
          refine xr_iald hx hb hK hP sX_2 g4 d_T_papersFitting_50 ?_
          refine lv_aload_n hx hb d_T_papersFitting_51 rfl (lv_at hl 1 rfl) ?_
          refine xr_getr hx hb hT hown hK hP sX_1 rfl inT 1 (by decide) wf_T_15 rfl d_T_papersFitting_52 ?_
          refine lv_iload_n hx hb d_T_papersFitting_55 rfl (lv_at hl 2 rfl) ?_
          obtain ⟨g5, hf⟩ := xgd_some hf
          refine xr_iald hx hb hK hP sX_3 g5 d_T_papersFitting_56 ?_
          refine lv_icmp_le (tgt := 67) hx hb d_T_papersFitting_57 rfl (fun hc => ?_) (fun hc => ?_)
          · have hf := ite_t hc hf
            exact K67 v2 v3 _  (lv_sub hl [1, 2, 3, 4] rfl) hf
          · have hf := ite_f hc hf
            exact K60 v2 v3 _  (lv_sub hl [1, 2, 3, 4] rfl) hf
      have K37 : ∀ (v2 v3 : Int32) (ls : Array Slot), lv_has ls 5 [(0, .ref (ad 1)), (1, .int a1), (2, .int v2), (3, .int v3)] → fT_papersFitting_37 a1 v2 v3 M = some o7 → W p l e (rm0_ 2 44) s m args below meth c s.heap [] 0 0 (MQ below (QcRead out) args s 0 0 (fun _ => False)) (F0 m 37 ls []) := by
        intro v2 v3 ls  hl hf
        unfold fT_papersFitting_37 at hf
        refine lv_iconst (v := 0) hx hb d_T_papersFitting_37 rfl ?_
        exact K38 v2 v3 0 _  hl hf
      unfold gT_papersFitting_7 at hf
      refine lv_iload_n hx hb d_T_papersFitting_7 rfl (lv_at hl 3 rfl) ?_
      refine lv_bipush (v := 9) hx hb d_T_papersFitting_8 rfl ?_
      refine lv_icmp_ge (tgt := 73) hx hb d_T_papersFitting_10 rfl (fun hc => ?_) (fun hc => ?_)
      · have hf := ite_t hc hf
        have he := xw_exit hf hn7
        subst he
        have hf := hk7
        exact K73 v2 _  (lv_sub hl [2] rfl) hf
      · have hf := ite_f hc hf
        refine lv_aload_n hx hb d_T_papersFitting_13 rfl (lv_at hl 0 rfl) ?_
        refine xr_getr hx hb hT hown hK hP sX_1 rfl inT 5 (by decide) wf_T_30 rfl d_T_papersFitting_14 ?_
        refine lv_iload_n hx hb d_T_papersFitting_17 rfl (lv_at hl 3 rfl) ?_
        obtain ⟨g6, hf⟩ := xgd_some hf
        refine xr_iald hx hb hK hP sX_10 g6 d_T_papersFitting_18 ?_
        refine lv_iconst (v := (-1)) hx hb d_T_papersFitting_19 rfl ?_
        refine lv_icmp_eq (tgt := 37) hx hb d_T_papersFitting_20 rfl (fun hc => ?_) (fun hc => ?_)
        · have hf := ite_t hc hf
          exact K37 v2 v3 _  hl hf
        · have hf := ite_f hc hf
          refine lv_aload_n hx hb d_T_papersFitting_23 rfl (lv_at hl 0 rfl) ?_
          refine xr_getr hx hb hT hown hK hP sX_1 rfl inT 5 (by decide) wf_T_30 rfl d_T_papersFitting_24 ?_
          refine lv_iload_n hx hb d_T_papersFitting_27 rfl (lv_at hl 3 rfl) ?_
          obtain ⟨g7, hf⟩ := xgd_some hf
          refine xr_iald hx hb hK hP sX_10 g7 d_T_papersFitting_28 ?_
          refine lv_iload_n hx hb d_T_papersFitting_29 rfl (lv_at hl 1 rfl) ?_
          refine lv_icmp_eq (tgt := 37) hx hb d_T_papersFitting_30 rfl (fun hc => ?_) (fun hc => ?_)
          · have hf := ite_t hc hf
            exact K37 v2 v3 _  hl hf
          · have hf := ite_f hc hf
            refine lv_iconst (v := 1) hx hb d_T_papersFitting_33 rfl ?_
            refine lv_goto (tgt := 38) hx hb d_T_papersFitting_34 rfl ?_
            exact K38 v2 v3 1 _  hl hf
  exact LH7 n7 r1 0 _ (lv_sub hl [2, 3, 1, 0] rfl) hq7
noncomputable def fP_papersReady_40 (v2 : Int32) (M : Mem) : Option (Int32) := some v2
noncomputable def fP_papersReady_30 (v1 v3 s30_0 s30_1 s30_2 : Int32) (M : Mem) : Option ((Int32 × Int32) ⊕ (Int32 × Int32)) := xbd (fE_with s30_2 s30_1 s30_0) (fun r1 => xlt (v3 + 1) (fun x2 => some (.inr (r1, x2))))
noncomputable def gP_papersReady_4 (v1 : Int32) (M : Mem) (v2 v3 : Int32) : Option ((Int32 × Int32) ⊕ (Int32 × Int32)) := if 9 ≤ v3 then (some (.inl (v2, v3))) else (xgd (vp_in v3 9) (if ((M 17 v3.toNatClampNeg) &&& (v1 ^^^ (-1))) = 0 then (fP_papersReady_30 v1 v3 1 v3 v2 M) else (fP_papersReady_30 v1 v3 0 v3 v2 M)))
noncomputable def bP_papersReady_4 (v1 : Int32) (M : Mem) : Int32 × Int32 → Option ((Int32 × Int32) ⊕ (Int32 × Int32)) := fun st => gP_papersReady_4 v1 M st.1 st.2
noncomputable def fP_papersReady (a1 : Int32) (M : Mem) : Option (Int32) := xbd (xlp (bP_papersReady_4 a1 M) (0, 0)) (fun e4 => fP_papersReady_40 e4.1 M)
set_option maxHeartbeats 4000000 in
set_option maxRecDepth 100000 in
theorem tP_papersReady (l : Launch) (G : va_G) (c3 : ClassId × ClassId × ClassId) (ad : Nat → Nat) (M : Mem) (a1 : Int32) (out : Int32) (hf : fP_papersReady a1 M = some out) : RMet l yP_papersReady cP_papersReady 4 (some .int) (rm0_ 1 22) G kl SX c3 ad M [.ref (ad 12), .int a1] out := by
  refine RMet.of (by decide +kernel) (Nat.le_of_ble_eq_true rfl) (fun p e s m args below meth c ls F hT hK hP hr hlk hl => ?_)
  have hx := F.1
  have hb := F.2.1
  have F : CallFix p m c cP_papersReady 4 s args gw RP := F
  have hown := F.2.2.2.1
  have hl : lv_has ls 4 [(0, .ref (ad 12)), (1, .int a1)] := hl
  have K40 : ∀ (v2 : Int32) (ls : Array Slot), lv_has ls 4 [(2, .int v2)] → fP_papersReady_40 v2 M = some out → W p l e (rm0_ 1 22) s m args below meth c s.heap [] 0 0 (MQ below (QcRead out) args s 0 0 (fun _ => False)) (F0 m 40 ls []) := by
    intro v2 ls  hl hf
    unfold fP_papersReady_40 at hf
    refine lv_iload_n hx hb d_P_papersReady_40 rfl (lv_at hl 0 rfl) ?_
    exact xr_iret hx hb hr hlk (Option.some.inj hf) d_P_papersReady_41
  unfold fP_papersReady at hf
  refine lv_iconst (v := 0) hx hb d_P_papersReady_0 rfl ?_
  refine lv_istore_n (lv' := [(2, .int 0), (0, .ref (ad 12)), (1, .int a1)]) hx hb d_P_papersReady_1 rfl hl (by decide) rfl (fun ls hl => ?_)
  refine lv_iconst (v := 0) hx hb d_P_papersReady_2 rfl ?_
  refine lv_istore_n (lv' := [(3, .int 0), (2, .int 0), (0, .ref (ad 12)), (1, .int a1)]) hx hb d_P_papersReady_3 rfl hl (by decide) rfl (fun ls hl => ?_)
  obtain ⟨e4, he4, hk4⟩ := xbd_some hf
  obtain ⟨n4, hq4⟩ := xlp_n he4
  have LH4 : ∀ (n : Nat) (v2 v3 : Int32) (ls : Array Slot), lv_has ls 4 [(0, .ref (ad 12)), (1, .int a1), (2, .int v2), (3, .int v3)] → xwh (bP_papersReady_4 a1 M) n (v2, v3) = some e4 → W p l e (rm0_ 1 22) s m args below meth c s.heap [] 0 0 (MQ below (QcRead out) args s 0 0 (fun _ => False)) (F0 m 4 ls []) := by
    intro n
    induction n with
    | zero =>
      intro v2 v3 ls hl hn
      exact xwh_0 hn
    | succ n ih4 =>
      intro v2 v3 ls hl hn4
      obtain ⟨o4, hf, hn4⟩ := xwh_s hn4
      have hf : gP_papersReady_4 a1 M v2 v3 = some o4 := hf
      have K30 : ∀ (v3 s30_0 s30_1 s30_2 : Int32) (ls : Array Slot), lv_has ls 4 [(0, .ref (ad 12)), (1, .int a1), (3, .int v3)] → fP_papersReady_30 a1 v3 s30_0 s30_1 s30_2 M = some o4 → W p l e (rm0_ 1 22) s m args below meth c s.heap [] 0 0 (MQ below (QcRead out) args s 0 0 (fun _ => False)) (F0 m 30 ls [.int s30_0, .int s30_1, .int s30_2]) := by
        intro v3 s30_0 s30_1 s30_2 ls  hl hf
        unfold fP_papersReady_30 at hf
        obtain ⟨r1, hr1, hf⟩ := xbd_some hf
        refine xc_rn (rest := []) F hT hK hP (tE_with l G c3 ad M s30_2 s30_1 s30_0 r1 hr1) wm_P_71 ws_E_with wn_E wc_E_with ck_E_with ⟨rfl, rfl⟩ ⟨by decide, by decide⟩ ⟨Nat.le_refl _, Nat.le_refl _⟩ hl.1 rfl (Nat.le_of_ble_eq_true rfl) d_P_papersReady_30 ?_
        refine lv_istore_n (lv' := [(2, .int r1), (0, .ref (ad 12)), (1, .int a1), (3, .int v3)]) hx hb d_P_papersReady_33 rfl hl (by decide) rfl (fun ls hl => ?_)
        obtain ⟨x2, hx2, hf⟩ := xlt_some hf
        refine lv_iinc (k := 3) (lv' := [(3, .int x2), (2, .int r1), (0, .ref (ad 12)), (1, .int a1)]) hx hb d_P_papersReady_34 hl rfl hx2 (by decide) rfl (fun ls hl => ?_)
        refine lv_goto (tgt := 4) hx hb d_P_papersReady_37 rfl ?_
        exact ih4 r1 x2 _ (lv_sub hl [2, 3, 1, 0] rfl) (xw_again hf hn4)
      unfold gP_papersReady_4 at hf
      refine lv_iload_n hx hb d_P_papersReady_4 rfl (lv_at hl 3 rfl) ?_
      refine lv_bipush (v := 9) hx hb d_P_papersReady_5 rfl ?_
      refine lv_icmp_ge (tgt := 40) hx hb d_P_papersReady_7 rfl (fun hc => ?_) (fun hc => ?_)
      · have hf := ite_t hc hf
        have he := xw_exit hf hn4
        subst he
        have hf := hk4
        exact K40 v2 _  (lv_sub hl [2] rfl) hf
      · have hf := ite_f hc hf
        refine lv_iload_n hx hb d_P_papersReady_10 rfl (lv_at hl 2 rfl) ?_
        refine lv_iload_n hx hb d_P_papersReady_11 rfl (lv_at hl 3 rfl) ?_
        refine lv_aload_n hx hb d_P_papersReady_12 rfl (lv_at hl 0 rfl) ?_
        refine xr_getr hx hb hT hown hK hP sX_12 rfl inP 4 (by decide) wf_P_24 rfl d_P_papersReady_13 ?_
        refine lv_iload_n hx hb d_P_papersReady_16 rfl (lv_at hl 3 rfl) ?_
        obtain ⟨g3, hf⟩ := xgd_some hf
        refine xr_iald hx hb hK hP sX_17 g3 d_P_papersReady_17 ?_
        refine lv_iload_n hx hb d_P_papersReady_18 rfl (lv_at hl 1 rfl) ?_
        refine lv_iconst (v := (-1)) hx hb d_P_papersReady_19 rfl ?_
        refine lv_ixor hx hb d_P_papersReady_20 ?_
        refine lv_iand hx hb d_P_papersReady_21 ?_
        refine lv_if_ne (tgt := 29) hx hb d_P_papersReady_22 rfl (fun hc => ?_) (fun hc => ?_)
        · have hf := ite_f hc hf
          refine lv_iconst (v := 0) hx hb d_P_papersReady_29 rfl ?_
          exact K30 v3 0 v3 v2 _  (lv_sub hl [0, 1, 3] rfl) hf
        · have hf := ite_t hc hf
          refine lv_iconst (v := 1) hx hb d_P_papersReady_25 rfl ?_
          refine lv_goto (tgt := 30) hx hb d_P_papersReady_26 rfl ?_
          exact K30 v3 1 v3 v2 _  (lv_sub hl [0, 1, 3] rfl) hf
  exact LH4 n4 0 0 _ (lv_sub hl [2, 3, 1, 0] rfl) hq4
noncomputable def fJI_bitCount (a0 : Int32) : Option (Int32) := xlt ((a0 - ((a0.toUInt32 >>> ((1 : Int32).toUInt32 &&& Int32.toUInt32 31)).toInt32 &&& 1431655765))) (fun x1 => xlt (((x1 &&& 858993459) + ((x1.toUInt32 >>> ((2 : Int32).toUInt32 &&& Int32.toUInt32 31)).toInt32 &&& 858993459))) (fun x2 => xlt (((x2 + (x2.toUInt32 >>> ((4 : Int32).toUInt32 &&& Int32.toUInt32 31)).toInt32) &&& 252645135)) (fun x3 => xlt ((x3 + (x3.toUInt32 >>> ((8 : Int32).toUInt32 &&& Int32.toUInt32 31)).toInt32)) (fun x4 => xlt ((x4 + (x4.toUInt32 >>> ((16 : Int32).toUInt32 &&& Int32.toUInt32 31)).toInt32)) (fun x5 => some (x5 &&& 63))))))
set_option maxHeartbeats 4000000 in
set_option maxRecDepth 100000 in
theorem tJI_bitCount (l : Launch) (G : va_G) (c3 : ClassId × ClassId × ClassId) (ad : Nat → Nat) (M : Mem) (a0 : Int32) (out : Int32) (hf : fJI_bitCount a0 = some out) : RMet l yJI_bitCount cJI_bitCount 1 (some .int) (rm0_ 0 0) G kl SX c3 ad M [.int a0] out := by
  refine RMet.of (by decide +kernel) (Nat.le_of_ble_eq_true rfl) (fun p e s m args below meth c ls F hT hK hP hr hlk hl => ?_)
  have hx := F.1
  have hb := F.2.1
  have F : CallFix p m c cJI_bitCount 1 s args gw RJI := F
  have hown := F.2.2.2.1
  have hl : lv_has ls 1 [(0, .int a0)] := hl
  unfold fJI_bitCount at hf
  refine lv_iload_n hx hb d_JI_bitCount_0 rfl (lv_at hl 0 rfl) ?_
  refine lv_iload_n hx hb d_JI_bitCount_1 rfl (lv_at hl 0 rfl) ?_
  refine lv_iconst (v := 1) hx hb d_JI_bitCount_2 rfl ?_
  refine lv_iushr hx hb d_JI_bitCount_3 rfl ?_
  refine lv_ldcw (v := 1431655765) hx hb hown (hT.1 _ wk_JI_265 _) d_JI_bitCount_4 ?_
  refine lv_iand hx hb d_JI_bitCount_7 ?_
  refine lv_isub hx hb d_JI_bitCount_8 ?_
  obtain ⟨x1, hx1, hf⟩ := xlt_some hf
  refine xr_name hx1 ?_
  refine lv_istore_n (lv' := [(0, .int x1)]) hx hb d_JI_bitCount_9 rfl hl (by decide) rfl (fun ls hl => ?_)
  refine lv_iload_n hx hb d_JI_bitCount_10 rfl (lv_at hl 0 rfl) ?_
  refine lv_ldcw (v := 858993459) hx hb hown (hT.1 _ wk_JI_266 _) d_JI_bitCount_11 ?_
  refine lv_iand hx hb d_JI_bitCount_14 ?_
  refine lv_iload_n hx hb d_JI_bitCount_15 rfl (lv_at hl 0 rfl) ?_
  refine lv_iconst (v := 2) hx hb d_JI_bitCount_16 rfl ?_
  refine lv_iushr hx hb d_JI_bitCount_17 rfl ?_
  refine lv_ldcw (v := 858993459) hx hb hown (hT.1 _ wk_JI_266 _) d_JI_bitCount_18 ?_
  refine lv_iand hx hb d_JI_bitCount_21 ?_
  refine lv_iadd hx hb d_JI_bitCount_22 ?_
  obtain ⟨x2, hx2, hf⟩ := xlt_some hf
  refine xr_name hx2 ?_
  refine lv_istore_n (lv' := [(0, .int x2)]) hx hb d_JI_bitCount_23 rfl hl (by decide) rfl (fun ls hl => ?_)
  refine lv_iload_n hx hb d_JI_bitCount_24 rfl (lv_at hl 0 rfl) ?_
  refine lv_iload_n hx hb d_JI_bitCount_25 rfl (lv_at hl 0 rfl) ?_
  refine lv_iconst (v := 4) hx hb d_JI_bitCount_26 rfl ?_
  refine lv_iushr hx hb d_JI_bitCount_27 rfl ?_
  refine lv_iadd hx hb d_JI_bitCount_28 ?_
  refine lv_ldcw (v := 252645135) hx hb hown (hT.1 _ wk_JI_267 _) d_JI_bitCount_29 ?_
  refine lv_iand hx hb d_JI_bitCount_32 ?_
  obtain ⟨x3, hx3, hf⟩ := xlt_some hf
  refine xr_name hx3 ?_
  refine lv_istore_n (lv' := [(0, .int x3)]) hx hb d_JI_bitCount_33 rfl hl (by decide) rfl (fun ls hl => ?_)
  refine lv_iload_n hx hb d_JI_bitCount_34 rfl (lv_at hl 0 rfl) ?_
  refine lv_iload_n hx hb d_JI_bitCount_35 rfl (lv_at hl 0 rfl) ?_
  refine lv_bipush (v := 8) hx hb d_JI_bitCount_36 rfl ?_
  refine lv_iushr hx hb d_JI_bitCount_38 rfl ?_
  refine lv_iadd hx hb d_JI_bitCount_39 ?_
  obtain ⟨x4, hx4, hf⟩ := xlt_some hf
  refine xr_name hx4 ?_
  refine lv_istore_n (lv' := [(0, .int x4)]) hx hb d_JI_bitCount_40 rfl hl (by decide) rfl (fun ls hl => ?_)
  refine lv_iload_n hx hb d_JI_bitCount_41 rfl (lv_at hl 0 rfl) ?_
  refine lv_iload_n hx hb d_JI_bitCount_42 rfl (lv_at hl 0 rfl) ?_
  refine lv_bipush (v := 16) hx hb d_JI_bitCount_43 rfl ?_
  refine lv_iushr hx hb d_JI_bitCount_45 rfl ?_
  refine lv_iadd hx hb d_JI_bitCount_46 ?_
  obtain ⟨x5, hx5, hf⟩ := xlt_some hf
  refine xr_name hx5 ?_
  refine lv_istore_n (lv' := [(0, .int x5)]) hx hb d_JI_bitCount_47 rfl hl (by decide) rfl (fun ls hl => ?_)
  refine lv_iload_n hx hb d_JI_bitCount_48 rfl (lv_at hl 0 rfl) ?_
  refine lv_bipush (v := 63) hx hb d_JI_bitCount_49 rfl ?_
  refine lv_iand hx hb d_JI_bitCount_51 ?_
  exact xr_iret hx hb hr hlk (Option.some.inj hf) d_JI_bitCount_52
noncomputable def fP_mayMeet_29 (s29_0 : Int32) (M : Mem) : Option (Int32) := xgd (s29_0 = 0 ∨ s29_0 = 1) (some s29_0)
noncomputable def fP_mayMeet_28 (M : Mem) : Option (Int32) := fP_mayMeet_29 0 M
noncomputable def fP_mayMeet (a1 : Int32) (M : Mem) : Option (Int32) := xgd (vp_in a1 512) (if ((M 15 a1.toNatClampNeg) &&& a1) = 0 then (xgd (vp_in a1 512) (if ((M 16 a1.toNatClampNeg) &&& (a1 ^^^ (-1))) = 0 then (fP_mayMeet_29 1 M) else (fP_mayMeet_28  M))) else (fP_mayMeet_28  M))
set_option maxHeartbeats 4000000 in
set_option maxRecDepth 100000 in
theorem tP_mayMeet (l : Launch) (G : va_G) (c3 : ClassId × ClassId × ClassId) (ad : Nat → Nat) (M : Mem) (a1 : Int32) (out : Int32) (hf : fP_mayMeet a1 M = some out) : RMet l yP_mayMeet cP_mayMeet 2 (some .boolean) (rm0_ 0 0) G kl SX c3 ad M [.ref (ad 12), .int a1] out := by
  refine RMet.of (by decide +kernel) (Nat.le_of_ble_eq_true rfl) (fun p e s m args below meth c ls F hT hK hP hr hlk hl => ?_)
  have hx := F.1
  have hb := F.2.1
  have F : CallFix p m c cP_mayMeet 2 s args gw RP := F
  have hown := F.2.2.2.1
  have hl : lv_has ls 2 [(0, .ref (ad 12)), (1, .int a1)] := hl
  have K29 : ∀ (s29_0 : Int32) (ls : Array Slot), lv_has ls 2 [] → fP_mayMeet_29 s29_0 M = some out → W p l e (rm0_ 0 0) s m args below meth c s.heap [] 0 0 (MQ below (QcRead out) args s 0 0 (fun _ => False)) (F0 m 29 ls [.int s29_0]) := by
    intro s29_0 ls  hl hf
    unfold fP_mayMeet_29 at hf
    obtain ⟨z1, hf⟩ := xgd_some hf
    exact xr_zret hx hb hr hlk z1 (Option.some.inj hf) d_P_mayMeet_29
  have K28 : ∀ (ls : Array Slot), lv_has ls 2 [] → fP_mayMeet_28  M = some out → W p l e (rm0_ 0 0) s m args below meth c s.heap [] 0 0 (MQ below (QcRead out) args s 0 0 (fun _ => False)) (F0 m 28 ls []) := by
    intro  ls  hl hf
    unfold fP_mayMeet_28 at hf
    refine lv_iconst (v := 0) hx hb d_P_mayMeet_28 rfl ?_
    exact K29 0 _  hl hf
  unfold fP_mayMeet at hf
  refine lv_aload_n hx hb d_P_mayMeet_0 rfl (lv_at hl 0 rfl) ?_
  refine xr_getr hx hb hT hown hK hP sX_12 rfl inP 2 (by decide) wf_P_18 rfl d_P_mayMeet_1 ?_
  refine lv_iload_n hx hb d_P_mayMeet_4 rfl (lv_at hl 1 rfl) ?_
  obtain ⟨g2, hf⟩ := xgd_some hf
  refine xr_iald hx hb hK hP sX_15 g2 d_P_mayMeet_5 ?_
  refine lv_iload_n hx hb d_P_mayMeet_6 rfl (lv_at hl 1 rfl) ?_
  refine lv_iand hx hb d_P_mayMeet_7 ?_
  refine lv_if_ne (tgt := 28) hx hb d_P_mayMeet_8 rfl (fun hc => ?_) (fun hc => ?_)
  · have hf := ite_f hc hf
    exact K28  _  (lv_sub hl [] rfl) hf
  · have hf := ite_t hc hf
    refine lv_aload_n hx hb d_P_mayMeet_11 rfl (lv_at hl 0 rfl) ?_
    refine xr_getr hx hb hT hown hK hP sX_12 rfl inP 3 (by decide) wf_P_21 rfl d_P_mayMeet_12 ?_
    refine lv_iload_n hx hb d_P_mayMeet_15 rfl (lv_at hl 1 rfl) ?_
    obtain ⟨g3, hf⟩ := xgd_some hf
    refine xr_iald hx hb hK hP sX_16 g3 d_P_mayMeet_16 ?_
    refine lv_iload_n hx hb d_P_mayMeet_17 rfl (lv_at hl 1 rfl) ?_
    refine lv_iconst (v := (-1)) hx hb d_P_mayMeet_18 rfl ?_
    refine lv_ixor hx hb d_P_mayMeet_19 ?_
    refine lv_iand hx hb d_P_mayMeet_20 ?_
    refine lv_if_ne (tgt := 28) hx hb d_P_mayMeet_21 rfl (fun hc => ?_) (fun hc => ?_)
    · have hf := ite_f hc hf
      exact K28  _  (lv_sub hl [] rfl) hf
    · have hf := ite_t hc hf
      refine lv_iconst (v := 1) hx hb d_P_mayMeet_24 rfl ?_
      refine lv_goto (tgt := 29) hx hb d_P_mayMeet_25 rfl ?_
      exact K29 1 _  (lv_sub hl [] rfl) hf
noncomputable def fP_addMeetings_87 (M : Mem) : Option (Mem) := some M
noncomputable def fP_addMeetings_73 (v1 v2 v3 v4 v5 : Int32) (M : Mem) : Option ((Int32 × Int32 × Mem) ⊕ (Int32 × Int32 × Mem)) := xlt (((v4 - 1) &&& v3)) (fun x1 => xlt (v5 + (-1)) (fun x2 => some (.inr (x1, x2, M))))
noncomputable def gP_addMeetings_13 (v1 v2 v3 : Int32) (v4 v5 : Int32) (M : Mem) : Option ((Int32 × Int32 × Mem) ⊕ (Int32 × Int32 × Mem)) := if v5 ≤ 0 then (some (.inl (v4, v5, M))) else (xgd (vp_in v1 512) (xgd (vp_in v4 512) (xlt ((((M 14 v1.toNatClampNeg) + 10077696) + (v2 * (M 13 v4.toNatClampNeg)))) (fun x5 => xbd (fP_mayMeet v4 M) (fun r6 => if r6 = 0 then (fP_addMeetings_73 v1 v2 v3 v4 v5 M) else (xlt ((v1 ||| v4)) (fun x7 => xgd (vp_in x7 512) (if (M 14 x7.toNatClampNeg) ≤ x5 then (fP_addMeetings_73 v1 v2 v3 v4 v5 M) else (xgd (vp_in (v1 ||| v4) 512) (xlt (up2 M 14 ((v1 ||| v4).toNatClampNeg) x5) (fun M10 => fP_addMeetings_73 v1 v2 v3 v4 v5 M10)))))))))))
noncomputable def bP_addMeetings_13 (v1 v2 v3 : Int32) : Int32 × Int32 × Mem → Option ((Int32 × Int32 × Mem) ⊕ (Int32 × Int32 × Mem)) := fun st => gP_addMeetings_13 v1 v2 v3 st.1 st.2.1 st.2.2
noncomputable def fP_addMeetings (a1 a2 a3 : Int32) (M : Mem) : Option (Mem) := xbd (fJI_bitCount a3) (fun r11 => xlt ((((1 : Int32) <<< (r11 &&& 31)) - 1)) (fun x12 => xbd (xlp (bP_addMeetings_13 a1 a2 a3) (a3, x12, M)) (fun e13 => fP_addMeetings_87  e13.2.2)))
set_option maxHeartbeats 4000000 in
set_option maxRecDepth 100000 in
theorem tP_addMeetings (l : Launch) (G : va_G) (c3 : ClassId × ClassId × ClassId) (ad : Nat → Nat) (hd : adI SX ad) (M : Mem) (a1 a2 a3 : Int32) (out : Mem) (hf : fP_addMeetings a1 a2 a3 M = some out) : WMet l yP_addMeetings cP_addMeetings 7 none (rm0_ 1 21) G kl SX c3 ad M [.ref (ad 12), .int a1, .int a2, .int a3] none out := by
  refine WMet.of (by decide +kernel) (Nat.le_of_ble_eq_true rfl) (fun p e s m args below meth c ls F hT hK hP hr hlk hl hS => ?_)
  have hx := F.1
  have hb := F.2.1
  have F : CallFix p m c cP_addMeetings 7 s args gw RP := F
  have hown := F.2.2.2.1
  have hl : lv_has ls 7 [(0, .ref (ad 12)), (1, .int a1), (2, .int a2), (3, .int a3)] := hl
  revert hP hS
  suffices hall : ∀ (H : Heap) (locs : List Loc), va_P G kl (wd SX c3 ad M) H → va_S (adA SX ad) s.heap H locs → W p l e (rm0_ 1 21) s m args below meth c H locs 0 0 (MQ below (QW G kl SX c3 ad none out) args s 0 0 (adA SX ad)) (F0 m 0 ls []) from hall s.heap []
  intro H locs hP hS
  have K87 : ∀ (M : Mem) (H : Heap) (locs : List Loc) (ls : Array Slot), lv_has ls 7 [] → va_P G kl (wd SX c3 ad M) H → va_S (adA SX ad) s.heap H locs → fP_addMeetings_87  M = some out → W p l e (rm0_ 1 21) s m args below meth c H locs 0 0 (MQ below (QW G kl SX c3 ad none out) args s 0 0 (adA SX ad)) (F0 m 87 ls []) := by
    intro  M H locs ls  hl hP hS hf
    unfold fP_addMeetings_87 at hf
    exact xw_vret hx hb hr hlk hP hS (Option.some.inj hf) d_P_addMeetings_87
  unfold fP_addMeetings at hf
  refine lv_iload_n hx hb d_P_addMeetings_0 rfl (lv_at hl 3 rfl) ?_
  refine lv_istore (lv' := [(4, .int a3), (0, .ref (ad 12)), (1, .int a1), (2, .int a2), (3, .int a3)]) hx hb d_P_addMeetings_1 hl (by decide) rfl (fun ls hl => ?_)
  refine lv_iconst (v := 1) hx hb d_P_addMeetings_3 rfl ?_
  refine lv_iload_n hx hb d_P_addMeetings_4 rfl (lv_at hl 4 rfl) ?_
  obtain ⟨r1, hr1, hf⟩ := xbd_some hf
  refine xc_rs (rest := [.int 1]) F hT hK hP (tJI_bitCount l G c3 ad M a3 r1 hr1) wl_P_75 ws_JI_bitCount wn_JI wc_JI_bitCount ck_JI_bitCount ⟨rfl, rfl⟩ ⟨by decide, by decide⟩ ⟨Nat.le_refl _, Nat.le_refl _⟩ hl.1 rfl (Nat.le_of_ble_eq_true rfl) d_P_addMeetings_5 ?_
  refine lv_ishl hx hb d_P_addMeetings_8 ?_
  refine lv_iconst (v := 1) hx hb d_P_addMeetings_9 rfl ?_
  refine lv_isub hx hb d_P_addMeetings_10 ?_
  obtain ⟨x2, hx2, hf⟩ := xlt_some hf
  refine xr_name hx2 ?_
  refine lv_istore (lv' := [(5, .int x2), (4, .int a3), (0, .ref (ad 12)), (1, .int a1), (2, .int a2), (3, .int a3)]) hx hb d_P_addMeetings_11 hl (by decide) rfl (fun ls hl => ?_)
  obtain ⟨e13, he13, hk13⟩ := xbd_some hf
  obtain ⟨n13, hq13⟩ := xlp_n he13
  have LH13 : ∀ (n : Nat) (v4 v5 : Int32) (M : Mem) (H : Heap) (locs : List Loc) (ls : Array Slot), lv_has ls 7 [(0, .ref (ad 12)), (1, .int a1), (2, .int a2), (3, .int a3), (4, .int v4), (5, .int v5)] → va_P G kl (wd SX c3 ad M) H → va_S (adA SX ad) s.heap H locs → xwh (bP_addMeetings_13 a1 a2 a3) n (v4, v5, M) = some e13 → W p l e (rm0_ 1 21) s m args below meth c H locs 0 0 (MQ below (QW G kl SX c3 ad none out) args s 0 0 (adA SX ad)) (F0 m 13 ls []) := by
    intro n
    induction n with
    | zero =>
      intro v4 v5 M H locs ls hl hP hS hn
      exact xwh_0 hn
    | succ n ih13 =>
      intro v4 v5 M H locs ls hl hP hS hn13
      obtain ⟨o13, hf, hn13⟩ := xwh_s hn13
      have hf : gP_addMeetings_13 a1 a2 a3 v4 v5 M = some o13 := hf
      have K73 : ∀ (v4 v5 : Int32) (M : Mem) (H : Heap) (locs : List Loc) (ls : Array Slot), lv_has ls 7 [(0, .ref (ad 12)), (1, .int a1), (2, .int a2), (3, .int a3), (4, .int v4), (5, .int v5)] → va_P G kl (wd SX c3 ad M) H → va_S (adA SX ad) s.heap H locs → fP_addMeetings_73 a1 a2 a3 v4 v5 M = some o13 → W p l e (rm0_ 1 21) s m args below meth c H locs 0 0 (MQ below (QW G kl SX c3 ad none out) args s 0 0 (adA SX ad)) (F0 m 73 ls []) := by
        intro v4 v5 M H locs ls  hl hP hS hf
        unfold fP_addMeetings_73 at hf
        refine lv_iload hx hb d_P_addMeetings_73 (lv_at hl 4 rfl) ?_
        refine lv_iconst (v := 1) hx hb d_P_addMeetings_75 rfl ?_
        refine lv_isub hx hb d_P_addMeetings_76 ?_
        refine lv_iload_n hx hb d_P_addMeetings_77 rfl (lv_at hl 3 rfl) ?_
        refine lv_iand hx hb d_P_addMeetings_78 ?_
        obtain ⟨x3, hx3, hf⟩ := xlt_some hf
        refine xr_name hx3 ?_
        refine lv_istore (lv' := [(4, .int x3), (0, .ref (ad 12)), (1, .int a1), (2, .int a2), (3, .int a3), (5, .int v5)]) hx hb d_P_addMeetings_79 hl (by decide) rfl (fun ls hl => ?_)
        obtain ⟨x4, hx4, hf⟩ := xlt_some hf
        refine lv_iinc (k := 5) (lv' := [(5, .int x4), (4, .int x3), (0, .ref (ad 12)), (1, .int a1), (2, .int a2), (3, .int a3)]) hx hb d_P_addMeetings_81 hl rfl hx4 (by decide) rfl (fun ls hl => ?_)
        refine lv_goto (tgt := 13) hx hb d_P_addMeetings_84 rfl ?_
        exact ih13 x3 x4 M _ _ _ (lv_sub hl [2, 3, 4, 5, 1, 0] rfl) hP hS (xw_again hf hn13)
      unfold gP_addMeetings_13 at hf
      refine lv_iload hx hb d_P_addMeetings_13 (lv_at hl 5 rfl) ?_
      refine lv_if_le (tgt := 87) hx hb d_P_addMeetings_15 rfl (fun hc => ?_) (fun hc => ?_)
      · have hf := ite_t hc hf
        have he := xw_exit hf hn13
        subst he
        have hf := hk13
        exact K87  M _ _ _  (lv_sub hl [] rfl) hP hS hf
      · have hf := ite_f hc hf
        refine lv_aload_n hx hb d_P_addMeetings_18 rfl (lv_at hl 0 rfl) ?_
        refine xr_getr hx hb hT hown hK hP sX_12 rfl inP 1 (by decide) wf_P_15 rfl d_P_addMeetings_19 ?_
        refine lv_iload_n hx hb d_P_addMeetings_22 rfl (lv_at hl 1 rfl) ?_
        obtain ⟨g5, hf⟩ := xgd_some hf
        refine xr_iald hx hb hK hP sX_14 g5 d_P_addMeetings_23 ?_
        refine lv_ldc (v := 10077696) hx hb hown (hT.1 _ wk_P_31 _) d_P_addMeetings_24 ?_
        refine lv_iadd hx hb d_P_addMeetings_26 ?_
        refine lv_iload_n hx hb d_P_addMeetings_27 rfl (lv_at hl 2 rfl) ?_
        refine lv_aload_n hx hb d_P_addMeetings_28 rfl (lv_at hl 0 rfl) ?_
        refine xr_getr hx hb hT hown hK hP sX_12 rfl inP 0 (by decide) wf_P_11 rfl d_P_addMeetings_29 ?_
        refine lv_iload hx hb d_P_addMeetings_32 (lv_at hl 4 rfl) ?_
        obtain ⟨g6, hf⟩ := xgd_some hf
        refine xr_iald hx hb hK hP sX_13 g6 d_P_addMeetings_34 ?_
        refine lv_imul hx hb d_P_addMeetings_35 ?_
        refine lv_iadd hx hb d_P_addMeetings_36 ?_
        obtain ⟨x7, hx7, hf⟩ := xlt_some hf
        refine xr_name hx7 ?_
        refine lv_istore (lv' := [(6, .int x7), (0, .ref (ad 12)), (1, .int a1), (2, .int a2), (3, .int a3), (4, .int v4), (5, .int v5)]) hx hb d_P_addMeetings_37 hl (by decide) rfl (fun ls hl => ?_)
        refine lv_aload_n hx hb d_P_addMeetings_39 rfl (lv_at hl 1 rfl) ?_
        refine lv_iload hx hb d_P_addMeetings_40 (lv_at hl 5 rfl) ?_
        obtain ⟨r8, hr8, hf⟩ := xbd_some hf
        refine xc_rv (rest := []) F hT hK hP (tP_mayMeet l G c3 ad M v4 r8 hr8) sX_12 rfl wl_P_80 wi_P_mayMeet we_P_mayMeet wn_P wc_P_mayMeet ck_P_mayMeet ⟨rfl, rfl⟩ ⟨by decide, by decide⟩ ⟨Nat.le_refl _, Nat.le_refl _⟩ hl.1 rfl (Nat.le_of_ble_eq_true rfl) d_P_addMeetings_42 ?_
        refine lv_if_eq (tgt := 73) hx hb d_P_addMeetings_45 rfl (fun hc => ?_) (fun hc => ?_)
        · have hf := ite_t hc hf
          exact K73 v4 v5 M _ _ _  (lv_sub hl [1, 2, 3, 4, 5, 6] rfl) hP hS hf
        · have hf := ite_f hc hf
          refine lv_iload hx hb d_P_addMeetings_48 (lv_at hl 0 rfl) ?_
          refine lv_aload_n hx hb d_P_addMeetings_50 rfl (lv_at hl 1 rfl) ?_
          refine xr_getr hx hb hT hown hK hP sX_12 rfl inP 1 (by decide) wf_P_15 rfl d_P_addMeetings_51 ?_
          refine lv_iload_n hx hb d_P_addMeetings_54 rfl (lv_at hl 2 rfl) ?_
          refine lv_iload hx hb d_P_addMeetings_55 (lv_at hl 5 rfl) ?_
          refine lv_ior hx hb d_P_addMeetings_57 ?_
          obtain ⟨x9, hx9, hf⟩ := xlt_some hf
          refine xr_name hx9 ?_
          obtain ⟨g10, hf⟩ := xgd_some hf
          refine xr_iald hx hb hK hP sX_14 g10 d_P_addMeetings_58 ?_
          refine lv_icmp_ge (tgt := 73) hx hb d_P_addMeetings_59 rfl (fun hc => ?_) (fun hc => ?_)
          · have hf := ite_t hc hf
            exact K73 v4 v5 M _ _ _  (lv_sub hl [1, 2, 3, 4, 5, 6] rfl) hP hS hf
          · have hf := ite_f hc hf
            refine lv_aload_n hx hb d_P_addMeetings_62 rfl (lv_at hl 1 rfl) ?_
            refine xr_getr hx hb hT hown hK hP sX_12 rfl inP 1 (by decide) wf_P_15 rfl d_P_addMeetings_63 ?_
            refine lv_iload_n hx hb d_P_addMeetings_66 rfl (lv_at hl 2 rfl) ?_
            refine lv_iload hx hb d_P_addMeetings_67 (lv_at hl 5 rfl) ?_
            refine lv_ior hx hb d_P_addMeetings_69 ?_
            refine lv_iload hx hb d_P_addMeetings_70 (lv_at hl 0 rfl) ?_
            obtain ⟨g11, hf⟩ := xgd_some hf
            obtain ⟨M12, hM12, hf⟩ := xlt_some hf
            refine xr_iast hx hb hd hK hP hS sX_14 g11 d_P_addMeetings_72 (fun H locs hP hS => ?_)
            rw [hM12] at hP
            exact K73 v4 v5 M12 _ _ _  (lv_sub hl [1, 2, 3, 4, 5, 6] rfl) hP hS hf
  exact LH13 n13 a3 x2 M _ _ _ (lv_sub hl [2, 3, 4, 5, 1, 0] rfl) hP hS hq13
noncomputable def fP_useSession_53 (M : Mem) : Option (Mem) := some M
noncomputable def fP_useSession_47 (v1 v2 v3 : Int32) (M : Mem) : Option ((Int32 × Mem) ⊕ (Int32 × Mem)) := xlt (v3 + (-1)) (fun x1 => some (.inr (x1, M)))
noncomputable def gP_useSession_5 (v1 v2 : Int32) (v3 : Int32) (M : Mem) : Option ((Int32 × Mem) ⊕ (Int32 × Mem)) := if v3 < 0 then (some (.inl (v3, M))) else (xgd (vp_in v3 512) (xlt ((M 12 5)) (fun x3 => xgd (vp_in x3 512) (if (M 14 x3.toNatClampNeg) ≤ ((M 14 v3.toNatClampNeg) + 10077696) then (fP_useSession_47 v1 v2 v3 M) else (xbd (fP_papersReady v3 M) (fun r5 => xbd (fP_addMeetings v3 v1 ((v2 &&& (v3 ^^^ (-1))) &&& r5) M) (fun r6 => fP_useSession_47 v1 v2 v3 r6)))))))
noncomputable def bP_useSession_5 (v1 v2 : Int32) : Int32 × Mem → Option ((Int32 × Mem) ⊕ (Int32 × Mem)) := fun st => gP_useSession_5 v1 v2 st.1 st.2
noncomputable def fP_useSession (a1 a2 : Int32) (M : Mem) : Option (Mem) := xlt ((M 12 5)) (fun x7 => xbd (xlp (bP_useSession_5 a1 a2) (x7, M)) (fun e5 => fP_useSession_53  e5.2))
set_option maxHeartbeats 4000000 in
set_option maxRecDepth 100000 in
theorem tP_useSession (l : Launch) (G : va_G) (c3 : ClassId × ClassId × ClassId) (ad : Nat → Nat) (hd : adI SX ad) (M : Mem) (a1 a2 : Int32) (out : Mem) (hf : fP_useSession a1 a2 M = some out) : WMet l yP_useSession cP_useSession 4 none (rm0_ 2 47) G kl SX c3 ad M [.ref (ad 12), .int a1, .int a2] none out := by
  refine WMet.of (by decide +kernel) (Nat.le_of_ble_eq_true rfl) (fun p e s m args below meth c ls F hT hK hP hr hlk hl hS => ?_)
  have hx := F.1
  have hb := F.2.1
  have F : CallFix p m c cP_useSession 4 s args gw RP := F
  have hown := F.2.2.2.1
  have hl : lv_has ls 4 [(0, .ref (ad 12)), (1, .int a1), (2, .int a2)] := hl
  revert hP hS
  suffices hall : ∀ (H : Heap) (locs : List Loc), va_P G kl (wd SX c3 ad M) H → va_S (adA SX ad) s.heap H locs → W p l e (rm0_ 2 47) s m args below meth c H locs 0 0 (MQ below (QW G kl SX c3 ad none out) args s 0 0 (adA SX ad)) (F0 m 0 ls []) from hall s.heap []
  intro H locs hP hS
  have K53 : ∀ (M : Mem) (H : Heap) (locs : List Loc) (ls : Array Slot), lv_has ls 4 [] → va_P G kl (wd SX c3 ad M) H → va_S (adA SX ad) s.heap H locs → fP_useSession_53  M = some out → W p l e (rm0_ 2 47) s m args below meth c H locs 0 0 (MQ below (QW G kl SX c3 ad none out) args s 0 0 (adA SX ad)) (F0 m 53 ls []) := by
    intro  M H locs ls  hl hP hS hf
    unfold fP_useSession_53 at hf
    exact xw_vret hx hb hr hlk hP hS (Option.some.inj hf) d_P_useSession_53
  unfold fP_useSession at hf
  refine lv_aload_n hx hb d_P_useSession_0 rfl (lv_at hl 0 rfl) ?_
  refine xr_geti hx hb hT hown hK hP sX_12 rfl inP 5 (by decide) wf_P_27 rfl d_P_useSession_1 ?_
  obtain ⟨x1, hx1, hf⟩ := xlt_some hf
  refine xr_name hx1 ?_
  refine lv_istore_n (lv' := [(3, .int x1), (0, .ref (ad 12)), (1, .int a1), (2, .int a2)]) hx hb d_P_useSession_4 rfl hl (by decide) rfl (fun ls hl => ?_)
  obtain ⟨e5, he5, hk5⟩ := xbd_some hf
  obtain ⟨n5, hq5⟩ := xlp_n he5
  have LH5 : ∀ (n : Nat) (v3 : Int32) (M : Mem) (H : Heap) (locs : List Loc) (ls : Array Slot), lv_has ls 4 [(0, .ref (ad 12)), (1, .int a1), (2, .int a2), (3, .int v3)] → va_P G kl (wd SX c3 ad M) H → va_S (adA SX ad) s.heap H locs → xwh (bP_useSession_5 a1 a2) n (v3, M) = some e5 → W p l e (rm0_ 2 47) s m args below meth c H locs 0 0 (MQ below (QW G kl SX c3 ad none out) args s 0 0 (adA SX ad)) (F0 m 5 ls []) := by
    intro n
    induction n with
    | zero =>
      intro v3 M H locs ls hl hP hS hn
      exact xwh_0 hn
    | succ n ih5 =>
      intro v3 M H locs ls hl hP hS hn5
      obtain ⟨o5, hf, hn5⟩ := xwh_s hn5
      have hf : gP_useSession_5 a1 a2 v3 M = some o5 := hf
      have K47 : ∀ (v3 : Int32) (M : Mem) (H : Heap) (locs : List Loc) (ls : Array Slot), lv_has ls 4 [(0, .ref (ad 12)), (1, .int a1), (2, .int a2), (3, .int v3)] → va_P G kl (wd SX c3 ad M) H → va_S (adA SX ad) s.heap H locs → fP_useSession_47 a1 a2 v3 M = some o5 → W p l e (rm0_ 2 47) s m args below meth c H locs 0 0 (MQ below (QW G kl SX c3 ad none out) args s 0 0 (adA SX ad)) (F0 m 47 ls []) := by
        intro v3 M H locs ls  hl hP hS hf
        unfold fP_useSession_47 at hf
        obtain ⟨x2, hx2, hf⟩ := xlt_some hf
        refine lv_iinc (k := 3) (lv' := [(3, .int x2), (0, .ref (ad 12)), (1, .int a1), (2, .int a2)]) hx hb d_P_useSession_47 hl rfl hx2 (by decide) rfl (fun ls hl => ?_)
        refine lv_goto (tgt := 5) hx hb d_P_useSession_50 rfl ?_
        exact ih5 x2 M _ _ _ (lv_sub hl [1, 2, 3, 0] rfl) hP hS (xw_again hf hn5)
      unfold gP_useSession_5 at hf
      refine lv_iload_n hx hb d_P_useSession_5 rfl (lv_at hl 3 rfl) ?_
      refine lv_if_lt (tgt := 53) hx hb d_P_useSession_6 rfl (fun hc => ?_) (fun hc => ?_)
      · have hf := ite_t hc hf
        have he := xw_exit hf hn5
        subst he
        have hf := hk5
        exact K53  M _ _ _  (lv_sub hl [] rfl) hP hS hf
      · have hf := ite_f hc hf
        refine lv_aload_n hx hb d_P_useSession_9 rfl (lv_at hl 0 rfl) ?_
        refine xr_getr hx hb hT hown hK hP sX_12 rfl inP 1 (by decide) wf_P_15 rfl d_P_useSession_10 ?_
        refine lv_iload_n hx hb d_P_useSession_13 rfl (lv_at hl 3 rfl) ?_
        obtain ⟨g3, hf⟩ := xgd_some hf
        refine xr_iald hx hb hK hP sX_14 g3 d_P_useSession_14 ?_
        refine lv_ldc (v := 10077696) hx hb hown (hT.1 _ wk_P_31 _) d_P_useSession_15 ?_
        refine lv_iadd hx hb d_P_useSession_17 ?_
        refine lv_aload_n hx hb d_P_useSession_18 rfl (lv_at hl 0 rfl) ?_
        refine xr_getr hx hb hT hown hK hP sX_12 rfl inP 1 (by decide) wf_P_15 rfl d_P_useSession_19 ?_
        refine lv_aload_n hx hb d_P_useSession_22 rfl (lv_at hl 0 rfl) ?_
        refine xr_geti hx hb hT hown hK hP sX_12 rfl inP 5 (by decide) wf_P_27 rfl d_P_useSession_23 ?_
        obtain ⟨x4, hx4, hf⟩ := xlt_some hf
        refine xr_name hx4 ?_
        obtain ⟨g5, hf⟩ := xgd_some hf
        refine xr_iald hx hb hK hP sX_14 g5 d_P_useSession_26 ?_
        refine lv_icmp_ge (tgt := 47) hx hb d_P_useSession_27 rfl (fun hc => ?_) (fun hc => ?_)
        · have hf := ite_t hc hf
          exact K47 v3 M _ _ _  hl hP hS hf
        · have hf := ite_f hc hf
          refine lv_aload_n hx hb d_P_useSession_30 rfl (lv_at hl 0 rfl) ?_
          refine lv_iload_n hx hb d_P_useSession_31 rfl (lv_at hl 3 rfl) ?_
          refine lv_iload_n hx hb d_P_useSession_32 rfl (lv_at hl 1 rfl) ?_
          refine lv_iload_n hx hb d_P_useSession_33 rfl (lv_at hl 2 rfl) ?_
          refine lv_iload_n hx hb d_P_useSession_34 rfl (lv_at hl 3 rfl) ?_
          refine lv_iconst (v := (-1)) hx hb d_P_useSession_35 rfl ?_
          refine lv_ixor hx hb d_P_useSession_36 ?_
          refine lv_iand hx hb d_P_useSession_37 ?_
          refine lv_aload_n hx hb d_P_useSession_38 rfl (lv_at hl 0 rfl) ?_
          refine lv_iload_n hx hb d_P_useSession_39 rfl (lv_at hl 3 rfl) ?_
          obtain ⟨r6, hr6, hf⟩ := xbd_some hf
          refine xc_rv (rest := [.int (a2 &&& (v3 ^^^ (-1))), .int a1, .int v3, .ref (ad 12)]) F hT hK hP (tP_papersReady l G c3 ad M v3 r6 hr6) sX_12 rfl wl_P_64 wi_P_papersReady we_P_papersReady wn_P wc_P_papersReady ck_P_papersReady ⟨rfl, rfl⟩ ⟨by decide, by decide⟩ ⟨Nat.le_refl _, Nat.le_refl _⟩ hl.1 rfl (Nat.le_of_ble_eq_true rfl) d_P_useSession_40 ?_
          refine lv_iand hx hb d_P_useSession_43 ?_
          obtain ⟨r7, hr7, hf⟩ := xbd_some hf
          refine xc_wv (rest := []) F hT hK hP hS (fun _ h => h) (tP_addMeetings l G c3 ad hd M v3 a1 ((a2 &&& (v3 ^^^ (-1))) &&& r6) r7 hr7) sX_12 rfl wl_P_67 wi_P_addMeetings we_P_addMeetings wn_P wc_P_addMeetings ck_P_addMeetings ⟨rfl, rfl⟩ ⟨by decide, by decide⟩ ⟨Nat.le_refl _, Nat.le_refl _⟩ hl.1 rfl (Nat.le_of_ble_eq_true rfl) d_P_useSession_44 (fun H locs hP hS _ => ?_)
          exact K47 v3 r7 _ _ _  hl hP hS hf
  exact LH5 n5 x1 M _ _ _ (lv_sub hl [1, 2, 3, 0] rfl) hP hS hq5
noncomputable def fP_leastCost_53 (M : Mem) : Option (Int32 × Mem) := xlt ((M 12 5)) (fun x1 => xgd (vp_in x1 512) (some ((M 14 x1.toNatClampNeg), M)))
noncomputable def gP_leastCost_31 (v2 : Int32) (M : Mem) : Option ((Int32 × Mem) ⊕ (Int32 × Mem)) := if 6 ≤ v2 then (some (.inl (v2, M))) else (xbd (fT_papersFitting v2 M) (fun r3 => xbd (fP_useSession v2 r3 M) (fun r4 => xlt (v2 + 1) (fun x5 => some (.inr (x5, r4))))))
noncomputable def bP_leastCost_31 : Int32 × Mem → Option ((Int32 × Mem) ⊕ (Int32 × Mem)) := fun st => gP_leastCost_31 st.1 st.2
noncomputable def fP_leastCost (M : Mem) : Option (Int32 × Mem) := xbd (fT_heldPapers  M) (fun r6 => xlt (up2 M 12 5 r6) (fun M7 => xbd (fP_gatherRules  M7) (fun r8 => xlt (upA r8 14 512 1073741824) (fun M9 => xgd (vp_in 0 512) (xlt (up2 M9 14 ((0 : Int32).toNatClampNeg) 0) (fun M11 => xbd (xlp (bP_leastCost_31) (0, M11)) (fun e31 => fP_leastCost_53  e31.2)))))))
set_option maxHeartbeats 4000000 in
set_option maxRecDepth 100000 in
theorem tP_leastCost (l : Launch) (G : va_G) (c3 : ClassId × ClassId × ClassId) (ad : Nat → Nat) (hd : adI SX ad) (M : Mem) (o1 : Int32) (o2 : Mem) (hf : fP_leastCost M = some (o1, o2)) : WMet l yP_leastCost cP_leastCost 3 (some .int) (rm0_ 3 70) G kl SX c3 ad M [.ref (ad 12), .ref (ad 1)] (some (.int o1)) o2 := by
  generalize hout : (o1, o2) = out at hf
  obtain rfl : out.1 = o1 := by rw [← hout]
  obtain rfl : out.2 = o2 := by rw [← hout]
  clear hout
  refine WMet.of (by decide +kernel) (Nat.le_of_ble_eq_true rfl) (fun p e s m args below meth c ls F hT hK hP hr hlk hl hS => ?_)
  have hx := F.1
  have hb := F.2.1
  have F : CallFix p m c cP_leastCost 3 s args gw RP := F
  have hown := F.2.2.2.1
  have hl : lv_has ls 3 [(0, .ref (ad 12)), (1, .ref (ad 1))] := hl
  revert hP hS
  suffices hall : ∀ (H : Heap) (locs : List Loc), va_P G kl (wd SX c3 ad M) H → va_S (adA SX ad) s.heap H locs → W p l e (rm0_ 3 70) s m args below meth c H locs 0 0 (MQ below (QW G kl SX c3 ad (some (.int out.1)) out.2) args s 0 0 (adA SX ad)) (F0 m 0 ls []) from hall s.heap []
  intro H locs hP hS
  have K53 : ∀ (M : Mem) (H : Heap) (locs : List Loc) (ls : Array Slot), lv_has ls 3 [(0, .ref (ad 12))] → va_P G kl (wd SX c3 ad M) H → va_S (adA SX ad) s.heap H locs → fP_leastCost_53  M = some out → W p l e (rm0_ 3 70) s m args below meth c H locs 0 0 (MQ below (QW G kl SX c3 ad (some (.int out.1)) out.2) args s 0 0 (adA SX ad)) (F0 m 53 ls []) := by
    intro  M H locs ls  hl hP hS hf
    unfold fP_leastCost_53 at hf
    refine lv_aload_n hx hb d_P_leastCost_53 rfl (lv_at hl 0 rfl) ?_
    refine xr_getr hx hb hT hown hK hP sX_12 rfl inP 1 (by decide) wf_P_15 rfl d_P_leastCost_54 ?_
    refine lv_aload_n hx hb d_P_leastCost_57 rfl (lv_at hl 0 rfl) ?_
    refine xr_geti hx hb hT hown hK hP sX_12 rfl inP 5 (by decide) wf_P_27 rfl d_P_leastCost_58 ?_
    obtain ⟨x1, hx1, hf⟩ := xlt_some hf
    refine xr_name hx1 ?_
    obtain ⟨g2, hf⟩ := xgd_some hf
    refine xr_iald hx hb hK hP sX_14 g2 d_P_leastCost_61 ?_
    exact xw_iret hx hb hr hlk hP hS (Option.some.inj hf) d_P_leastCost_62
  unfold fP_leastCost at hf
  refine lv_aload_n hx hb d_P_leastCost_0 rfl (lv_at hl 0 rfl) ?_
  refine lv_aload_n hx hb d_P_leastCost_1 rfl (lv_at hl 1 rfl) ?_
  obtain ⟨r3, hr3, hf⟩ := xbd_some hf
  refine xc_rv (rest := [.ref (ad 12)]) F hT hK hP (tT_heldPapers l G c3 ad M  r3 hr3) sX_1 rfl wl_P_32 wi_T_heldPapers we_T_heldPapers wn_T wc_T_heldPapers ck_T_heldPapers ⟨rfl, rfl⟩ ⟨by decide, by decide⟩ ⟨Nat.le_refl _, Nat.le_refl _⟩ hl.1 rfl (Nat.le_of_ble_eq_true rfl) d_P_leastCost_2 ?_
  obtain ⟨M4, hM4, hf⟩ := xlt_some hf
  refine xr_puti hx hb hT hown hd hK hP hS sX_12 rfl inP tyP tkP nmP 5 (by decide) wf_P_27 rfl fX_12_5 rfl rfl rfl d_P_leastCost_5 (fun H locs hP hS => ?_)
  rw [hM4] at hP
  refine lv_aload_n hx hb d_P_leastCost_8 rfl (lv_at hl 0 rfl) ?_
  refine lv_aload_n hx hb d_P_leastCost_9 rfl (lv_at hl 1 rfl) ?_
  obtain ⟨r5, hr5, hf⟩ := xbd_some hf
  refine xc_wv (rest := []) F hT hK hP hS (fun _ h => h) (tP_gatherRules l G c3 ad hd M4  r5 hr5) sX_12 rfl wl_P_38 wi_P_gatherRules we_P_gatherRules wn_P wc_P_gatherRules ck_P_gatherRules ⟨rfl, rfl⟩ ⟨by decide, by decide⟩ ⟨Nat.le_refl _, Nat.le_refl _⟩ hl.1 rfl (Nat.le_of_ble_eq_true rfl) d_P_leastCost_10 (fun H locs hP hS _ => ?_)
  refine lv_aload_n hx hb d_P_leastCost_13 rfl (lv_at hl 0 rfl) ?_
  refine xr_getr hx hb hT hown hK hP sX_12 rfl inP 1 (by decide) wf_P_15 rfl d_P_leastCost_14 ?_
  refine lv_ldc (v := 1073741824) hx hb hown (hT.1 _ wk_P_42 _) d_P_leastCost_17 ?_
  obtain ⟨M6, hM6, hf⟩ := xlt_some hf
  refine xc_ws (rest := []) F hT hK hP hS (fun _ h => h) (tJA_fill l G sX_14 c3 ad hd r5 1073741824) wl_P_43 ws_JA_fill wn_JA wc_JA_fill ck_JA_fill ⟨rfl, rfl⟩ ⟨by decide, by decide⟩ ⟨by decide, by decide⟩ hl.1 rfl (Nat.le_of_ble_eq_true rfl) d_P_leastCost_19 (fun H locs hP hS _ => ?_)
  rw [hM6] at hP
  refine lv_aload_n hx hb d_P_leastCost_22 rfl (lv_at hl 0 rfl) ?_
  refine xr_getr hx hb hT hown hK hP sX_12 rfl inP 1 (by decide) wf_P_15 rfl d_P_leastCost_23 ?_
  refine lv_iconst (v := 0) hx hb d_P_leastCost_26 rfl ?_
  refine lv_iconst (v := 0) hx hb d_P_leastCost_27 rfl ?_
  obtain ⟨g7, hf⟩ := xgd_some hf
  obtain ⟨M8, hM8, hf⟩ := xlt_some hf
  refine xr_iast hx hb hd hK hP hS sX_14 g7 d_P_leastCost_28 (fun H locs hP hS => ?_)
  rw [hM8] at hP
  refine lv_iconst (v := 0) hx hb d_P_leastCost_29 rfl ?_
  refine lv_istore_n (lv' := [(2, .int 0), (0, .ref (ad 12)), (1, .ref (ad 1))]) hx hb d_P_leastCost_30 rfl hl (by decide) rfl (fun ls hl => ?_)
  obtain ⟨e31, he31, hk31⟩ := xbd_some hf
  obtain ⟨n31, hq31⟩ := xlp_n he31
  have LH31 : ∀ (n : Nat) (v2 : Int32) (M : Mem) (H : Heap) (locs : List Loc) (ls : Array Slot), lv_has ls 3 [(0, .ref (ad 12)), (1, .ref (ad 1)), (2, .int v2)] → va_P G kl (wd SX c3 ad M) H → va_S (adA SX ad) s.heap H locs → xwh (bP_leastCost_31) n (v2, M) = some e31 → W p l e (rm0_ 3 70) s m args below meth c H locs 0 0 (MQ below (QW G kl SX c3 ad (some (.int out.1)) out.2) args s 0 0 (adA SX ad)) (F0 m 31 ls []) := by
    intro n
    induction n with
    | zero =>
      intro v2 M H locs ls hl hP hS hn
      exact xwh_0 hn
    | succ n ih31 =>
      intro v2 M H locs ls hl hP hS hn31
      obtain ⟨o31, hf, hn31⟩ := xwh_s hn31
      have hf : gP_leastCost_31 v2 M = some o31 := hf
      unfold gP_leastCost_31 at hf
      refine lv_iload_n hx hb d_P_leastCost_31 rfl (lv_at hl 2 rfl) ?_
      refine lv_bipush (v := 6) hx hb d_P_leastCost_32 rfl ?_
      refine lv_icmp_ge (tgt := 53) hx hb d_P_leastCost_34 rfl (fun hc => ?_) (fun hc => ?_)
      · have hf := ite_t hc hf
        have he := xw_exit hf hn31
        subst he
        have hf := hk31
        exact K53  M _ _ _  (lv_sub hl [0] rfl) hP hS hf
      · have hf := ite_f hc hf
        refine lv_aload_n hx hb d_P_leastCost_37 rfl (lv_at hl 0 rfl) ?_
        refine lv_iload_n hx hb d_P_leastCost_38 rfl (lv_at hl 2 rfl) ?_
        refine lv_aload_n hx hb d_P_leastCost_39 rfl (lv_at hl 1 rfl) ?_
        refine lv_iload_n hx hb d_P_leastCost_40 rfl (lv_at hl 2 rfl) ?_
        obtain ⟨r9, hr9, hf⟩ := xbd_some hf
        refine xc_rv (rest := [.int v2, .ref (ad 12)]) F hT hK hP (tT_papersFitting l G c3 ad M v2 r9 hr9) sX_1 rfl wl_P_49 wi_T_papersFitting we_T_papersFitting wn_T wc_T_papersFitting ck_T_papersFitting ⟨rfl, rfl⟩ ⟨by decide, by decide⟩ ⟨Nat.le_refl _, Nat.le_refl _⟩ hl.1 rfl (Nat.le_of_ble_eq_true rfl) d_P_leastCost_41 ?_
        obtain ⟨r10, hr10, hf⟩ := xbd_some hf
        refine xc_wv (rest := []) F hT hK hP hS (fun _ h => h) (tP_useSession l G c3 ad hd M v2 r9 r10 hr10) sX_12 rfl wl_P_53 wi_P_useSession we_P_useSession wn_P wc_P_useSession ck_P_useSession ⟨rfl, rfl⟩ ⟨by decide, by decide⟩ ⟨Nat.le_refl _, Nat.le_refl _⟩ hl.1 rfl (Nat.le_of_ble_eq_true rfl) d_P_leastCost_44 (fun H locs hP hS _ => ?_)
        obtain ⟨x11, hx11, hf⟩ := xlt_some hf
        refine lv_iinc (k := 2) (lv' := [(2, .int x11), (0, .ref (ad 12)), (1, .ref (ad 1))]) hx hb d_P_leastCost_47 hl rfl hx11 (by decide) rfl (fun ls hl => ?_)
        refine lv_goto (tgt := 31) hx hb d_P_leastCost_50 rfl ?_
        exact ih31 x11 r10 _ _ _ (lv_sub hl [1, 2, 0] rfl) hP hS (xw_again hf hn31)
  exact LH31 n31 0 M8 _ _ _ (lv_sub hl [1, 2, 0] rfl) hP hS hq31
noncomputable def fT_readPlan_51 (M : Mem) : Option (Mem) := some M
noncomputable def fT_readPlan_39 (v2 v3 v4 s39_0 s39_1 : Int32) (M : Mem) : Option ((Int32 × Int32 × Mem) ⊕ (Int32 × Int32 × Mem)) := xgd (vp_in s39_1 9) (xlt (up2 M 11 s39_1.toNatClampNeg s39_0) (fun M2 => xlt ((v3 / 6)) (fun x3 => xlt (v4 + (-1)) (fun x4 => some (.inr (x3, x4, M2))))))
noncomputable def gT_readPlan_11 (v2 : Int32) (v3 v4 : Int32) (M : Mem) : Option ((Int32 × Int32 × Mem) ⊕ (Int32 × Int32 × Mem)) := if v4 < 0 then (some (.inl (v3, v4, M))) else (xbd (fE_has v2 v4) (fun r5 => if r5 = 0 then (fT_readPlan_39 v2 v3 v4 (-1) v4 M) else (fT_readPlan_39 v2 v3 v4 (v3 - v3 / 6 * 6) v4 M)))
noncomputable def bT_readPlan_11 (v2 : Int32) : Int32 × Int32 × Mem → Option ((Int32 × Int32 × Mem) ⊕ (Int32 × Int32 × Mem)) := fun st => gT_readPlan_11 v2 st.1 st.2.1 st.2.2
noncomputable def fT_readPlan (a1 : Int32) (M : Mem) : Option (Mem) := xbd (fT_heldPapers  M) (fun r6 => xbd (xlp (bT_readPlan_11 r6) (a1, 8, M)) (fun e11 => fT_readPlan_51  e11.2.2))
set_option maxHeartbeats 4000000 in
set_option maxRecDepth 100000 in
theorem tT_readPlan (l : Launch) (G : va_G) (c3 : ClassId × ClassId × ClassId) (ad : Nat → Nat) (hd : adI SX ad) (M : Mem) (a1 : Int32) (out : Mem) (hf : fT_readPlan a1 M = some out) : WMet l yT_readPlan cT_readPlan 5 none (rm0_ 2 44) G kl SX c3 ad M [.ref (ad 1), .int a1] none out := by
  refine WMet.of (by decide +kernel) (Nat.le_of_ble_eq_true rfl) (fun p e s m args below meth c ls F hT hK hP hr hlk hl hS => ?_)
  have hx := F.1
  have hb := F.2.1
  have F : CallFix p m c cT_readPlan 5 s args gw RT := F
  have hown := F.2.2.2.1
  have hl : lv_has ls 5 [(0, .ref (ad 1)), (1, .int a1)] := hl
  revert hP hS
  suffices hall : ∀ (H : Heap) (locs : List Loc), va_P G kl (wd SX c3 ad M) H → va_S (adA SX ad) s.heap H locs → W p l e (rm0_ 2 44) s m args below meth c H locs 0 0 (MQ below (QW G kl SX c3 ad none out) args s 0 0 (adA SX ad)) (F0 m 0 ls []) from hall s.heap []
  intro H locs hP hS
  have K51 : ∀ (M : Mem) (H : Heap) (locs : List Loc) (ls : Array Slot), lv_has ls 5 [] → va_P G kl (wd SX c3 ad M) H → va_S (adA SX ad) s.heap H locs → fT_readPlan_51  M = some out → W p l e (rm0_ 2 44) s m args below meth c H locs 0 0 (MQ below (QW G kl SX c3 ad none out) args s 0 0 (adA SX ad)) (F0 m 51 ls []) := by
    intro  M H locs ls  hl hP hS hf
    unfold fT_readPlan_51 at hf
    exact xw_vret hx hb hr hlk hP hS (Option.some.inj hf) d_T_readPlan_51
  unfold fT_readPlan at hf
  refine lv_aload_n hx hb d_T_readPlan_0 rfl (lv_at hl 0 rfl) ?_
  obtain ⟨r1, hr1, hf⟩ := xbd_some hf
  refine xc_rv (rest := []) F hT hK hP (tT_heldPapers l G c3 ad M  r1 hr1) sX_1 rfl wl_T_71 wi_T_heldPapers we_T_heldPapers wn_T wc_T_heldPapers ck_T_heldPapers ⟨rfl, rfl⟩ ⟨by decide, by decide⟩ ⟨Nat.le_refl _, Nat.le_refl _⟩ hl.1 rfl (Nat.le_of_ble_eq_true rfl) d_T_readPlan_1 ?_
  refine lv_istore_n (lv' := [(2, .int r1), (0, .ref (ad 1)), (1, .int a1)]) hx hb d_T_readPlan_4 rfl hl (by decide) rfl (fun ls hl => ?_)
  refine lv_iload_n hx hb d_T_readPlan_5 rfl (lv_at hl 2 rfl) ?_
  refine lv_istore_n (lv' := [(3, .int a1), (2, .int r1), (0, .ref (ad 1)), (1, .int a1)]) hx hb d_T_readPlan_6 rfl hl (by decide) rfl (fun ls hl => ?_)
  refine lv_bipush (v := 8) hx hb d_T_readPlan_7 rfl ?_
  refine lv_istore (lv' := [(4, .int 8), (3, .int a1), (2, .int r1), (0, .ref (ad 1)), (1, .int a1)]) hx hb d_T_readPlan_9 hl (by decide) rfl (fun ls hl => ?_)
  obtain ⟨e11, he11, hk11⟩ := xbd_some hf
  obtain ⟨n11, hq11⟩ := xlp_n he11
  have LH11 : ∀ (n : Nat) (v3 v4 : Int32) (M : Mem) (H : Heap) (locs : List Loc) (ls : Array Slot), lv_has ls 5 [(0, .ref (ad 1)), (2, .int r1), (3, .int v3), (4, .int v4)] → va_P G kl (wd SX c3 ad M) H → va_S (adA SX ad) s.heap H locs → xwh (bT_readPlan_11 r1) n (v3, v4, M) = some e11 → W p l e (rm0_ 2 44) s m args below meth c H locs 0 0 (MQ below (QW G kl SX c3 ad none out) args s 0 0 (adA SX ad)) (F0 m 11 ls []) := by
    intro n
    induction n with
    | zero =>
      intro v3 v4 M H locs ls hl hP hS hn
      exact xwh_0 hn
    | succ n ih11 =>
      intro v3 v4 M H locs ls hl hP hS hn11
      obtain ⟨o11, hf, hn11⟩ := xwh_s hn11
      have hf : gT_readPlan_11 r1 v3 v4 M = some o11 := hf
      have K39 : ∀ (v3 v4 s39_0 s39_1 : Int32) (M : Mem) (H : Heap) (locs : List Loc) (ls : Array Slot), lv_has ls 5 [(0, .ref (ad 1)), (2, .int r1), (3, .int v3), (4, .int v4)] → va_P G kl (wd SX c3 ad M) H → va_S (adA SX ad) s.heap H locs → fT_readPlan_39 r1 v3 v4 s39_0 s39_1 M = some o11 → W p l e (rm0_ 2 44) s m args below meth c H locs 0 0 (MQ below (QW G kl SX c3 ad none out) args s 0 0 (adA SX ad)) (F0 m 39 ls [.int s39_0, .int s39_1, .ref (ad 11)]) := by
        intro v3 v4 s39_0 s39_1 M H locs ls  hl hP hS hf
        unfold fT_readPlan_39 at hf
        obtain ⟨g2, hf⟩ := xgd_some hf
        obtain ⟨M3, hM3, hf⟩ := xlt_some hf
        refine xr_iast hx hb hd hK hP hS sX_11 g2 d_T_readPlan_39 (fun H locs hP hS => ?_)
        rw [hM3] at hP
        refine lv_iload_n hx hb d_T_readPlan_40 rfl (lv_at hl 2 rfl) ?_
        refine lv_bipush (v := 6) hx hb d_T_readPlan_41 rfl ?_
        refine lv_idiv hx hb d_T_readPlan_43 (by decide) ?_
        obtain ⟨x4, hx4, hf⟩ := xlt_some hf
        refine xr_name hx4 ?_
        refine lv_istore_n (lv' := [(3, .int x4), (0, .ref (ad 1)), (2, .int r1), (4, .int v4)]) hx hb d_T_readPlan_44 rfl hl (by decide) rfl (fun ls hl => ?_)
        obtain ⟨x5, hx5, hf⟩ := xlt_some hf
        refine lv_iinc (k := 3) (lv' := [(4, .int x5), (3, .int x4), (0, .ref (ad 1)), (2, .int r1)]) hx hb d_T_readPlan_45 hl rfl hx5 (by decide) rfl (fun ls hl => ?_)
        refine lv_goto (tgt := 11) hx hb d_T_readPlan_48 rfl ?_
        exact ih11 x4 x5 M3 _ _ _ (lv_sub hl [2, 3, 1, 0] rfl) hP hS (xw_again hf hn11)
      unfold gT_readPlan_11 at hf
      refine lv_iload hx hb d_T_readPlan_11 (lv_at hl 3 rfl) ?_
      refine lv_if_lt (tgt := 51) hx hb d_T_readPlan_13 rfl (fun hc => ?_) (fun hc => ?_)
      · have hf := ite_t hc hf
        have he := xw_exit hf hn11
        subst he
        have hf := hk11
        exact K51  M _ _ _  (lv_sub hl [] rfl) hP hS hf
      · have hf := ite_f hc hf
        refine lv_aload_n hx hb d_T_readPlan_16 rfl (lv_at hl 0 rfl) ?_
        refine xr_getr hx hb hT hown hK hP sX_1 rfl inT 6 (by decide) wf_T_33 rfl d_T_readPlan_17 ?_
        refine lv_iload hx hb d_T_readPlan_20 (lv_at hl 3 rfl) ?_
        refine lv_iload_n hx hb d_T_readPlan_22 rfl (lv_at hl 1 rfl) ?_
        refine lv_iload hx hb d_T_readPlan_23 (lv_at hl 3 rfl) ?_
        obtain ⟨r6, hr6, hf⟩ := xbd_some hf
        refine xc_rn (rest := [.int v4, .ref (ad 11)]) F hT hK hP (tE_has l G c3 ad M r1 v4 r6 hr6) wm_T_57 ws_E_has wn_E wc_E_has ck_E_has ⟨rfl, rfl⟩ ⟨by decide, by decide⟩ ⟨Nat.le_refl _, Nat.le_refl _⟩ hl.1 rfl (Nat.le_of_ble_eq_true rfl) d_T_readPlan_25 ?_
        refine lv_if_eq (tgt := 38) hx hb d_T_readPlan_28 rfl (fun hc => ?_) (fun hc => ?_)
        · have hf := ite_t hc hf
          refine lv_iconst (v := (-1)) hx hb d_T_readPlan_38 rfl ?_
          exact K39 v3 v4 (-1) v4 M _ _ _  hl hP hS hf
        · have hf := ite_f hc hf
          refine lv_iload_n hx hb d_T_readPlan_31 rfl (lv_at hl 2 rfl) ?_
          refine lv_bipush (v := 6) hx hb d_T_readPlan_32 rfl ?_
          refine lv_irem hx hb d_T_readPlan_34 (by decide) ?_
          refine lv_goto (tgt := 39) hx hb d_T_readPlan_35 rfl ?_
          exact K39 v3 v4 (v3 - v3 / 6 * 6) v4 M _ _ _  hl hP hS hf
  exact LH11 n11 a1 8 M _ _ _ (lv_sub hl [3, 2, 1, 0] rfl) hP hS hq11
noncomputable def fT_makePlan (M : Mem) : Option (Int32 × Mem) := xbd (fP_leastCost  M) (fun r1 => if r1.1 = 1073741824 then (some ((-1), r1.2)) else (xlt (up2 r1.2 1 7 1) (fun M2 => xlt (up2 M2 1 8 (r1.1 / 10077696)) (fun M3 => xbd (fT_readPlan (r1.1 - r1.1 / 10077696 * 10077696) M3) (fun r4 => some ((r4 1 8), r4))))))
set_option maxHeartbeats 4000000 in
set_option maxRecDepth 100000 in
theorem tT_makePlan (l : Launch) (G : va_G) (c3 : ClassId × ClassId × ClassId) (ad : Nat → Nat) (hd : adI SX ad) (M : Mem) (o1 : Int32) (o2 : Mem) (hf : fT_makePlan M = some (o1, o2)) : WMet l yT_makePlan cT_makePlan 2 (some .int) (rm0_ 4 92) G kl SX c3 ad M [.ref (ad 1)] (some (.int o1)) o2 := by
  generalize hout : (o1, o2) = out at hf
  obtain rfl : out.1 = o1 := by rw [← hout]
  obtain rfl : out.2 = o2 := by rw [← hout]
  clear hout
  refine WMet.of (by decide +kernel) (Nat.le_of_ble_eq_true rfl) (fun p e s m args below meth c ls F hT hK hP hr hlk hl hS => ?_)
  have hx := F.1
  have hb := F.2.1
  have F : CallFix p m c cT_makePlan 2 s args gw RT := F
  have hown := F.2.2.2.1
  have hl : lv_has ls 2 [(0, .ref (ad 1))] := hl
  revert hP hS
  suffices hall : ∀ (H : Heap) (locs : List Loc), va_P G kl (wd SX c3 ad M) H → va_S (adA SX ad) s.heap H locs → W p l e (rm0_ 4 92) s m args below meth c H locs 0 0 (MQ below (QW G kl SX c3 ad (some (.int out.1)) out.2) args s 0 0 (adA SX ad)) (F0 m 0 ls []) from hall s.heap []
  intro H locs hP hS
  unfold fT_makePlan at hf
  refine lv_aload_n hx hb d_T_makePlan_0 rfl (lv_at hl 0 rfl) ?_
  refine xr_getr hx hb hT hown hK hP sX_1 rfl inT 9 (by decide) wf_T_47 rfl d_T_makePlan_1 ?_
  refine lv_aload_n hx hb d_T_makePlan_4 rfl (lv_at hl 0 rfl) ?_
  obtain ⟨r1, hr1, hf⟩ := xbd_some hf
  refine xc_wv (rest := []) F hT hK hP hS (fun _ h => h) (tP_leastCost l G c3 ad hd M  r1.1 r1.2 hr1) sX_12 rfl wl_T_75 wi_P_leastCost we_P_leastCost wn_P wc_P_leastCost ck_P_leastCost ⟨rfl, rfl⟩ ⟨by decide, by decide⟩ ⟨Nat.le_refl _, Nat.le_refl _⟩ hl.1 rfl (Nat.le_of_ble_eq_true rfl) d_T_makePlan_5 (fun H locs hP hS _ => ?_)
  refine lv_istore_n (lv' := [(1, .int r1.1), (0, .ref (ad 1))]) hx hb d_T_makePlan_8 rfl hl (by decide) rfl (fun ls hl => ?_)
  refine lv_iload_n hx hb d_T_makePlan_9 rfl (lv_at hl 0 rfl) ?_
  refine lv_ldc (v := 1073741824) hx hb hown (hT.1 _ wk_T_79 _) d_T_makePlan_10 ?_
  refine lv_icmp_ne (tgt := 17) hx hb d_T_makePlan_12 rfl (fun hc => ?_) (fun hc => ?_)
  · have hf := ite_f hc hf
    refine lv_aload_n hx hb d_T_makePlan_17 rfl (lv_at hl 1 rfl) ?_
    refine lv_iconst (v := 1) hx hb d_T_makePlan_18 rfl ?_
    obtain ⟨M2, hM2, hf⟩ := xlt_some hf
    refine xr_puti hx hb hT hown hd hK hP hS sX_1 rfl inT tyT tkT nmT 7 (by decide) wf_T_36 rfl fX_1_7 rfl rfl rfl d_T_makePlan_19 (fun H locs hP hS => ?_)
    rw [hM2] at hP
    refine lv_aload_n hx hb d_T_makePlan_22 rfl (lv_at hl 1 rfl) ?_
    refine lv_iload_n hx hb d_T_makePlan_23 rfl (lv_at hl 0 rfl) ?_
    refine lv_ldc (v := 10077696) hx hb hown (hT.1 _ wk_T_80 _) d_T_makePlan_24 ?_
    refine lv_idiv hx hb d_T_makePlan_26 (by decide) ?_
    obtain ⟨M3, hM3, hf⟩ := xlt_some hf
    refine xr_puti hx hb hT hown hd hK hP hS sX_1 rfl inT tyT tkT nmT 8 (by decide) wf_T_40 rfl fX_1_8 rfl rfl rfl d_T_makePlan_27 (fun H locs hP hS => ?_)
    rw [hM3] at hP
    refine lv_aload_n hx hb d_T_makePlan_30 rfl (lv_at hl 1 rfl) ?_
    refine lv_iload_n hx hb d_T_makePlan_31 rfl (lv_at hl 0 rfl) ?_
    refine lv_ldc (v := 10077696) hx hb hown (hT.1 _ wk_T_80 _) d_T_makePlan_32 ?_
    refine lv_irem hx hb d_T_makePlan_34 (by decide) ?_
    obtain ⟨r4, hr4, hf⟩ := xbd_some hf
    refine xc_wv (rest := []) F hT hK hP hS (fun _ h => h) (tT_readPlan l G c3 ad hd M3 (r1.1 - r1.1 / 10077696 * 10077696) r4 hr4) sX_1 rfl wl_T_81 wi_T_readPlan we_T_readPlan wn_T wc_T_readPlan ck_T_readPlan ⟨rfl, rfl⟩ ⟨by decide, by decide⟩ ⟨Nat.le_refl _, Nat.le_refl _⟩ hl.1 rfl (Nat.le_of_ble_eq_true rfl) d_T_makePlan_35 (fun H locs hP hS _ => ?_)
    refine lv_aload_n hx hb d_T_makePlan_38 rfl (lv_at hl 1 rfl) ?_
    refine xr_geti hx hb hT hown hK hP sX_1 rfl inT 8 (by decide) wf_T_40 rfl d_T_makePlan_39 ?_
    exact xw_iret hx hb hr hlk hP hS (Option.some.inj hf) d_T_makePlan_42
  · have hf := ite_t hc hf
    refine lv_iconst (v := (-1)) hx hb d_T_makePlan_15 rfl ?_
    exact xw_iret hx hb hr hlk hP hS (Option.some.inj hf) d_T_makePlan_16
noncomputable def fE_plan (M : Mem) : Option (Int32 × Mem) := xbd (fE_dropPlan  M) (fun r1 => xbd (fT_makePlan  r1) (fun r2 => some (r2.1, r2.2)))
set_option maxHeartbeats 4000000 in
set_option maxRecDepth 100000 in
theorem tE_plan (l : Launch) (G : va_G) (c3 : ClassId × ClassId × ClassId) (ad : Nat → Nat) (hd : adI SX ad) (M : Mem) (o1 : Int32) (o2 : Mem) (hf : fE_plan M = some (o1, o2)) : WMet l yE_plan cE_plan 1 (some .int) (rm0_ 5 113) G kl SX c3 ad M [.ref (ad 0)] (some (.int o1)) o2 := by
  generalize hout : (o1, o2) = out at hf
  obtain rfl : out.1 = o1 := by rw [← hout]
  obtain rfl : out.2 = o2 := by rw [← hout]
  clear hout
  refine WMet.of (by decide +kernel) (Nat.le_of_ble_eq_true rfl) (fun p e s m args below meth c ls F hT hK hP hr hlk hl hS => ?_)
  have hx := F.1
  have hb := F.2.1
  have F : CallFix p m c cE_plan 1 s args gw RE := F
  have hown := F.2.2.2.1
  have hl : lv_has ls 1 [(0, .ref (ad 0))] := hl
  revert hP hS
  suffices hall : ∀ (H : Heap) (locs : List Loc), va_P G kl (wd SX c3 ad M) H → va_S (adA SX ad) s.heap H locs → W p l e (rm0_ 5 113) s m args below meth c H locs 0 0 (MQ below (QW G kl SX c3 ad (some (.int out.1)) out.2) args s 0 0 (adA SX ad)) (F0 m 0 ls []) from hall s.heap []
  intro H locs hP hS
  unfold fE_plan at hf
  refine lv_aload_n hx hb d_E_plan_0 rfl (lv_at hl 0 rfl) ?_
  obtain ⟨r1, hr1, hf⟩ := xbd_some hf
  refine xc_wv (rest := []) F hT hK hP hS (fun _ h => h) (tE_dropPlan l G c3 ad hd M  r1 hr1) sX_0 rfl wl_E_45 wi_E_dropPlan we_E_dropPlan wn_E wc_E_dropPlan ck_E_dropPlan ⟨rfl, rfl⟩ ⟨by decide, by decide⟩ ⟨Nat.le_refl _, Nat.le_refl _⟩ hl.1 rfl (Nat.le_of_ble_eq_true rfl) d_E_plan_1 (fun H locs hP hS _ => ?_)
  refine lv_aload_n hx hb d_E_plan_4 rfl (lv_at hl 0 rfl) ?_
  refine xr_getr hx hb hT hown hK hP sX_0 rfl inE 0 (by decide) wf_E_12 rfl d_E_plan_5 ?_
  obtain ⟨r2, hr2, hf⟩ := xbd_some hf
  refine xc_wv (rest := []) F hT hK hP hS (fun _ h => h) (tT_makePlan l G c3 ad hd r1  r2.1 r2.2 hr2) sX_1 rfl wl_E_93 wi_T_makePlan we_T_makePlan wn_T wc_T_makePlan ck_T_makePlan ⟨rfl, rfl⟩ ⟨by decide, by decide⟩ ⟨Nat.le_refl _, Nat.le_refl _⟩ hl.1 rfl (Nat.le_of_ble_eq_true rfl) d_E_plan_8 (fun H locs hP hS _ => ?_)
  exact xw_iret hx hb hr hlk hP hS (Option.some.inj hf) d_E_plan_11
noncomputable def fT_sessionsOf_50 (v2 : Int32) (M : Mem) : Option (Int32) := some v2
noncomputable def fT_sessionsOf_44 (v1 v2 v3 : Int32) (M : Mem) : Option ((Int32 × Int32) ⊕ (Int32 × Int32)) := xlt (v3 + 1) (fun x1 => some (.inr (v2, x1)))
noncomputable def gT_sessionsOf_4 (v1 : Int32) (M : Mem) (v2 v3 : Int32) : Option ((Int32 × Int32) ⊕ (Int32 × Int32)) := if 9 ≤ v3 then (some (.inl (v2, v3))) else (xgd (vp_in v3 9) (if (M 11 v3.toNatClampNeg) = (-1) then (fT_sessionsOf_44 v1 v2 v3 M) else (xgd (vp_in v1 40) (xbd (fE_has (M 4 v1.toNatClampNeg) v3) (fun r4 => if r4 = 0 then (fT_sessionsOf_44 v1 v2 v3 M) else (xgd (vp_in v3 9) (xlt ((v2 ||| ((1 : Int32) <<< ((M 11 v3.toNatClampNeg) &&& 31)))) (fun x6 => fT_sessionsOf_44 v1 x6 v3 M))))))))
noncomputable def bT_sessionsOf_4 (v1 : Int32) (M : Mem) : Int32 × Int32 → Option ((Int32 × Int32) ⊕ (Int32 × Int32)) := fun st => gT_sessionsOf_4 v1 M st.1 st.2
noncomputable def fT_sessionsOf (a1 : Int32) (M : Mem) : Option (Int32) := xbd (xlp (bT_sessionsOf_4 a1 M) (0, 0)) (fun e4 => fT_sessionsOf_50 e4.1 M)
set_option maxHeartbeats 4000000 in
set_option maxRecDepth 100000 in
theorem tT_sessionsOf (l : Launch) (G : va_G) (c3 : ClassId × ClassId × ClassId) (ad : Nat → Nat) (M : Mem) (a1 : Int32) (out : Int32) (hf : fT_sessionsOf a1 M = some out) : RMet l yT_sessionsOf cT_sessionsOf 4 (some .int) (rm0_ 1 21) G kl SX c3 ad M [.ref (ad 1), .int a1] out := by
  refine RMet.of (by decide +kernel) (Nat.le_of_ble_eq_true rfl) (fun p e s m args below meth c ls F hT hK hP hr hlk hl => ?_)
  have hx := F.1
  have hb := F.2.1
  have F : CallFix p m c cT_sessionsOf 4 s args gw RT := F
  have hown := F.2.2.2.1
  have hl : lv_has ls 4 [(0, .ref (ad 1)), (1, .int a1)] := hl
  have K50 : ∀ (v2 : Int32) (ls : Array Slot), lv_has ls 4 [(2, .int v2)] → fT_sessionsOf_50 v2 M = some out → W p l e (rm0_ 1 21) s m args below meth c s.heap [] 0 0 (MQ below (QcRead out) args s 0 0 (fun _ => False)) (F0 m 50 ls []) := by
    intro v2 ls  hl hf
    unfold fT_sessionsOf_50 at hf
    refine lv_iload_n hx hb d_T_sessionsOf_50 rfl (lv_at hl 0 rfl) ?_
    exact xr_iret hx hb hr hlk (Option.some.inj hf) d_T_sessionsOf_51
  unfold fT_sessionsOf at hf
  refine lv_iconst (v := 0) hx hb d_T_sessionsOf_0 rfl ?_
  refine lv_istore_n (lv' := [(2, .int 0), (0, .ref (ad 1)), (1, .int a1)]) hx hb d_T_sessionsOf_1 rfl hl (by decide) rfl (fun ls hl => ?_)
  refine lv_iconst (v := 0) hx hb d_T_sessionsOf_2 rfl ?_
  refine lv_istore_n (lv' := [(3, .int 0), (2, .int 0), (0, .ref (ad 1)), (1, .int a1)]) hx hb d_T_sessionsOf_3 rfl hl (by decide) rfl (fun ls hl => ?_)
  obtain ⟨e4, he4, hk4⟩ := xbd_some hf
  obtain ⟨n4, hq4⟩ := xlp_n he4
  have LH4 : ∀ (n : Nat) (v2 v3 : Int32) (ls : Array Slot), lv_has ls 4 [(0, .ref (ad 1)), (1, .int a1), (2, .int v2), (3, .int v3)] → xwh (bT_sessionsOf_4 a1 M) n (v2, v3) = some e4 → W p l e (rm0_ 1 21) s m args below meth c s.heap [] 0 0 (MQ below (QcRead out) args s 0 0 (fun _ => False)) (F0 m 4 ls []) := by
    intro n
    induction n with
    | zero =>
      intro v2 v3 ls hl hn
      exact xwh_0 hn
    | succ n ih4 =>
      intro v2 v3 ls hl hn4
      obtain ⟨o4, hf, hn4⟩ := xwh_s hn4
      have hf : gT_sessionsOf_4 a1 M v2 v3 = some o4 := hf
      have K44 : ∀ (v2 v3 : Int32) (ls : Array Slot), lv_has ls 4 [(0, .ref (ad 1)), (1, .int a1), (2, .int v2), (3, .int v3)] → fT_sessionsOf_44 a1 v2 v3 M = some o4 → W p l e (rm0_ 1 21) s m args below meth c s.heap [] 0 0 (MQ below (QcRead out) args s 0 0 (fun _ => False)) (F0 m 44 ls []) := by
        intro v2 v3 ls  hl hf
        unfold fT_sessionsOf_44 at hf
        obtain ⟨x1, hx1, hf⟩ := xlt_some hf
        refine lv_iinc (k := 3) (lv' := [(3, .int x1), (0, .ref (ad 1)), (1, .int a1), (2, .int v2)]) hx hb d_T_sessionsOf_44 hl rfl hx1 (by decide) rfl (fun ls hl => ?_)
        refine lv_goto (tgt := 4) hx hb d_T_sessionsOf_47 rfl ?_
        exact ih4 v2 x1 _ (lv_sub hl [1, 2, 3, 0] rfl) (xw_again hf hn4)
      unfold gT_sessionsOf_4 at hf
      refine lv_iload_n hx hb d_T_sessionsOf_4 rfl (lv_at hl 3 rfl) ?_
      refine lv_bipush (v := 9) hx hb d_T_sessionsOf_5 rfl ?_
      refine lv_icmp_ge (tgt := 50) hx hb d_T_sessionsOf_7 rfl (fun hc => ?_) (fun hc => ?_)
      · have hf := ite_t hc hf
        have he := xw_exit hf hn4
        subst he
        have hf := hk4
        exact K50 v2 _  (lv_sub hl [2] rfl) hf
      · have hf := ite_f hc hf
        refine lv_aload_n hx hb d_T_sessionsOf_10 rfl (lv_at hl 0 rfl) ?_
        refine xr_getr hx hb hT hown hK hP sX_1 rfl inT 6 (by decide) wf_T_33 rfl d_T_sessionsOf_11 ?_
        refine lv_iload_n hx hb d_T_sessionsOf_14 rfl (lv_at hl 3 rfl) ?_
        obtain ⟨g2, hf⟩ := xgd_some hf
        refine xr_iald hx hb hK hP sX_11 g2 d_T_sessionsOf_15 ?_
        refine lv_iconst (v := (-1)) hx hb d_T_sessionsOf_16 rfl ?_
        refine lv_icmp_eq (tgt := 44) hx hb d_T_sessionsOf_17 rfl (fun hc => ?_) (fun hc => ?_)
        · have hf := ite_t hc hf
          exact K44 v2 v3 _  hl hf
        · have hf := ite_f hc hf
          refine lv_aload_n hx hb d_T_sessionsOf_20 rfl (lv_at hl 0 rfl) ?_
          refine xr_getr hx hb hT hown hK hP sX_1 rfl inT 2 (by decide) wf_T_18 rfl d_T_sessionsOf_21 ?_
          refine lv_iload_n hx hb d_T_sessionsOf_24 rfl (lv_at hl 1 rfl) ?_
          obtain ⟨g3, hf⟩ := xgd_some hf
          refine xr_iald hx hb hK hP sX_4 g3 d_T_sessionsOf_25 ?_
          refine lv_iload_n hx hb d_T_sessionsOf_26 rfl (lv_at hl 3 rfl) ?_
          obtain ⟨r4, hr4, hf⟩ := xbd_some hf
          refine xc_rn (rest := []) F hT hK hP (tE_has l G c3 ad M (M 4 a1.toNatClampNeg) v3 r4 hr4) wm_T_57 ws_E_has wn_E wc_E_has ck_E_has ⟨rfl, rfl⟩ ⟨by decide, by decide⟩ ⟨Nat.le_refl _, Nat.le_refl _⟩ hl.1 rfl (Nat.le_of_ble_eq_true rfl) d_T_sessionsOf_27 ?_
          refine lv_if_eq (tgt := 44) hx hb d_T_sessionsOf_30 rfl (fun hc => ?_) (fun hc => ?_)
          · have hf := ite_t hc hf
            exact K44 v2 v3 _  hl hf
          · have hf := ite_f hc hf
            refine lv_iload_n hx hb d_T_sessionsOf_33 rfl (lv_at hl 2 rfl) ?_
            refine lv_iconst (v := 1) hx hb d_T_sessionsOf_34 rfl ?_
            refine lv_aload_n hx hb d_T_sessionsOf_35 rfl (lv_at hl 0 rfl) ?_
            refine xr_getr hx hb hT hown hK hP sX_1 rfl inT 6 (by decide) wf_T_33 rfl d_T_sessionsOf_36 ?_
            refine lv_iload_n hx hb d_T_sessionsOf_39 rfl (lv_at hl 3 rfl) ?_
            obtain ⟨g5, hf⟩ := xgd_some hf
            refine xr_iald hx hb hK hP sX_11 g5 d_T_sessionsOf_40 ?_
            refine lv_ishl hx hb d_T_sessionsOf_41 ?_
            refine lv_ior hx hb d_T_sessionsOf_42 ?_
            obtain ⟨x6, hx6, hf⟩ := xlt_some hf
            refine xr_name hx6 ?_
            refine lv_istore_n (lv' := [(2, .int x6), (0, .ref (ad 1)), (1, .int a1), (3, .int v3)]) hx hb d_T_sessionsOf_43 rfl hl (by decide) rfl (fun ls hl => ?_)
            exact K44 x6 v3 _  (lv_sub hl [1, 2, 0, 3] rfl) hf
  exact LH4 n4 0 0 _ (lv_sub hl [2, 3, 1, 0] rfl) hq4
noncomputable def fT_sessionsInARow_33 (v1 : Int32) (M : Mem) : Option (Int32) := some v1
noncomputable def gT_sessionsInARow_4 (M : Mem) (v1 v2 : Int32) : Option ((Int32 × Int32) ⊕ (Int32 × Int32)) := if 40 ≤ v2 then (some (.inl (v1, v2))) else (xbd (fT_sessionsOf v2 M) (fun r1 => xbd (fJI_bitCount (r1 &&& (r1 >>> (1 &&& 31)))) (fun r2 => xlt ((v1 + r2)) (fun x3 => xlt (v2 + 1) (fun x4 => some (.inr (x3, x4)))))))
noncomputable def bT_sessionsInARow_4 (M : Mem) : Int32 × Int32 → Option ((Int32 × Int32) ⊕ (Int32 × Int32)) := fun st => gT_sessionsInARow_4 M st.1 st.2
noncomputable def fT_sessionsInARow (M : Mem) : Option (Int32) := xbd (xlp (bT_sessionsInARow_4  M) (0, 0)) (fun e4 => fT_sessionsInARow_33 e4.1 M)
set_option maxHeartbeats 4000000 in
set_option maxRecDepth 100000 in
theorem tT_sessionsInARow (l : Launch) (G : va_G) (c3 : ClassId × ClassId × ClassId) (ad : Nat → Nat) (M : Mem) (out : Int32) (hf : fT_sessionsInARow M = some out) : RMet l yT_sessionsInARow cT_sessionsInARow 4 (some .int) (rm0_ 2 44) G kl SX c3 ad M [.ref (ad 1)] out := by
  refine RMet.of (by decide +kernel) (Nat.le_of_ble_eq_true rfl) (fun p e s m args below meth c ls F hT hK hP hr hlk hl => ?_)
  have hx := F.1
  have hb := F.2.1
  have F : CallFix p m c cT_sessionsInARow 4 s args gw RT := F
  have hown := F.2.2.2.1
  have hl : lv_has ls 4 [(0, .ref (ad 1))] := hl
  have K33 : ∀ (v1 : Int32) (ls : Array Slot), lv_has ls 4 [(1, .int v1)] → fT_sessionsInARow_33 v1 M = some out → W p l e (rm0_ 2 44) s m args below meth c s.heap [] 0 0 (MQ below (QcRead out) args s 0 0 (fun _ => False)) (F0 m 33 ls []) := by
    intro v1 ls  hl hf
    unfold fT_sessionsInARow_33 at hf
    refine lv_iload_n hx hb d_T_sessionsInARow_33 rfl (lv_at hl 0 rfl) ?_
    exact xr_iret hx hb hr hlk (Option.some.inj hf) d_T_sessionsInARow_34
  unfold fT_sessionsInARow at hf
  refine lv_iconst (v := 0) hx hb d_T_sessionsInARow_0 rfl ?_
  refine lv_istore_n (lv' := [(1, .int 0), (0, .ref (ad 1))]) hx hb d_T_sessionsInARow_1 rfl hl (by decide) rfl (fun ls hl => ?_)
  refine lv_iconst (v := 0) hx hb d_T_sessionsInARow_2 rfl ?_
  refine lv_istore_n (lv' := [(2, .int 0), (1, .int 0), (0, .ref (ad 1))]) hx hb d_T_sessionsInARow_3 rfl hl (by decide) rfl (fun ls hl => ?_)
  obtain ⟨e4, he4, hk4⟩ := xbd_some hf
  obtain ⟨n4, hq4⟩ := xlp_n he4
  have LH4 : ∀ (n : Nat) (v1 v2 : Int32) (ls : Array Slot), lv_has ls 4 [(0, .ref (ad 1)), (1, .int v1), (2, .int v2)] → xwh (bT_sessionsInARow_4  M) n (v1, v2) = some e4 → W p l e (rm0_ 2 44) s m args below meth c s.heap [] 0 0 (MQ below (QcRead out) args s 0 0 (fun _ => False)) (F0 m 4 ls []) := by
    intro n
    induction n with
    | zero =>
      intro v1 v2 ls hl hn
      exact xwh_0 hn
    | succ n ih4 =>
      intro v1 v2 ls hl hn4
      obtain ⟨o4, hf, hn4⟩ := xwh_s hn4
      have hf : gT_sessionsInARow_4 M v1 v2 = some o4 := hf
      unfold gT_sessionsInARow_4 at hf
      refine lv_iload_n hx hb d_T_sessionsInARow_4 rfl (lv_at hl 2 rfl) ?_
      refine lv_bipush (v := 40) hx hb d_T_sessionsInARow_5 rfl ?_
      refine lv_icmp_ge (tgt := 33) hx hb d_T_sessionsInARow_7 rfl (fun hc => ?_) (fun hc => ?_)
      · have hf := ite_t hc hf
        have he := xw_exit hf hn4
        subst he
        have hf := hk4
        exact K33 v1 _  (lv_sub hl [1] rfl) hf
      · have hf := ite_f hc hf
        refine lv_aload_n hx hb d_T_sessionsInARow_10 rfl (lv_at hl 0 rfl) ?_
        refine lv_iload_n hx hb d_T_sessionsInARow_11 rfl (lv_at hl 2 rfl) ?_
        obtain ⟨r1, hr1, hf⟩ := xbd_some hf
        refine xc_rv (rest := []) F hT hK hP (tT_sessionsOf l G c3 ad M v2 r1 hr1) sX_1 rfl wl_T_85 wi_T_sessionsOf we_T_sessionsOf wn_T wc_T_sessionsOf ck_T_sessionsOf ⟨rfl, rfl⟩ ⟨by decide, by decide⟩ ⟨Nat.le_refl _, Nat.le_refl _⟩ hl.1 rfl (Nat.le_of_ble_eq_true rfl) d_T_sessionsInARow_12 ?_
        refine lv_istore_n (lv' := [(3, .int r1), (0, .ref (ad 1)), (1, .int v1), (2, .int v2)]) hx hb d_T_sessionsInARow_15 rfl hl (by decide) rfl (fun ls hl => ?_)
        refine lv_iload_n hx hb d_T_sessionsInARow_16 rfl (lv_at hl 2 rfl) ?_
        refine lv_iload_n hx hb d_T_sessionsInARow_17 rfl (lv_at hl 0 rfl) ?_
        refine lv_iload_n hx hb d_T_sessionsInARow_18 rfl (lv_at hl 0 rfl) ?_
        refine lv_iconst (v := 1) hx hb d_T_sessionsInARow_19 rfl ?_
        refine lv_ishr hx hb d_T_sessionsInARow_20 ?_
        refine lv_iand hx hb d_T_sessionsInARow_21 ?_
        obtain ⟨r2, hr2, hf⟩ := xbd_some hf
        refine xc_rs (rest := [.int v1]) F hT hK hP (tJI_bitCount l G c3 ad M (r1 &&& (r1 >>> (1 &&& 31))) r2 hr2) wl_T_65 ws_JI_bitCount wn_JI wc_JI_bitCount ck_JI_bitCount ⟨rfl, rfl⟩ ⟨by decide, by decide⟩ ⟨Nat.le_refl _, Nat.le_refl _⟩ hl.1 rfl (Nat.le_of_ble_eq_true rfl) d_T_sessionsInARow_22 ?_
        refine lv_iadd hx hb d_T_sessionsInARow_25 ?_
        obtain ⟨x3, hx3, hf⟩ := xlt_some hf
        refine xr_name hx3 ?_
        refine lv_istore_n (lv' := [(1, .int x3), (3, .int r1), (0, .ref (ad 1)), (2, .int v2)]) hx hb d_T_sessionsInARow_26 rfl hl (by decide) rfl (fun ls hl => ?_)
        obtain ⟨x4, hx4, hf⟩ := xlt_some hf
        refine lv_iinc (k := 3) (lv' := [(2, .int x4), (1, .int x3), (3, .int r1), (0, .ref (ad 1))]) hx hb d_T_sessionsInARow_27 hl rfl hx4 (by decide) rfl (fun ls hl => ?_)
        refine lv_goto (tgt := 4) hx hb d_T_sessionsInARow_30 rfl ?_
        exact ih4 x3 x4 _ (lv_sub hl [3, 1, 0] rfl) (xw_again hf hn4)
  exact LH4 n4 0 0 _ (lv_sub hl [2, 1, 0] rfl) hq4
noncomputable def fE_strain (M : Mem) : Option (Int32) := xbd (fT_sessionsInARow  M) (fun r1 => some r1)
set_option maxHeartbeats 4000000 in
set_option maxRecDepth 100000 in
theorem tE_strain (l : Launch) (G : va_G) (c3 : ClassId × ClassId × ClassId) (ad : Nat → Nat) (M : Mem) (out : Int32) (hf : fE_strain M = some out) : RMet l yE_strain cE_strain 1 (some .int) (rm0_ 3 67) G kl SX c3 ad M [.ref (ad 0)] out := by
  refine RMet.of (by decide +kernel) (Nat.le_of_ble_eq_true rfl) (fun p e s m args below meth c ls F hT hK hP hr hlk hl => ?_)
  have hx := F.1
  have hb := F.2.1
  have F : CallFix p m c cE_strain 1 s args gw RE := F
  have hown := F.2.2.2.1
  have hl : lv_has ls 1 [(0, .ref (ad 0))] := hl
  unfold fE_strain at hf
  refine lv_aload_n hx hb d_E_strain_0 rfl (lv_at hl 0 rfl) ?_
  refine xr_getr hx hb hT hown hK hP sX_0 rfl inE 0 (by decide) wf_E_12 rfl d_E_strain_1 ?_
  obtain ⟨r1, hr1, hf⟩ := xbd_some hf
  refine xc_rv (rest := []) F hT hK hP (tT_sessionsInARow l G c3 ad M  r1 hr1) sX_1 rfl wl_E_100 wi_T_sessionsInARow we_T_sessionsInARow wn_T wc_T_sessionsInARow ck_T_sessionsInARow ⟨rfl, rfl⟩ ⟨by decide, by decide⟩ ⟨Nat.le_refl _, Nat.le_refl _⟩ hl.1 rfl (Nat.le_of_ble_eq_true rfl) d_E_strain_4 ?_
  exact xr_iret hx hb hr hlk (Option.some.inj hf) d_E_strain_7
noncomputable def fE_isBelow_14 (s14_0 : Int32) : Option (Int32) := xgd (s14_0 = 0 ∨ s14_0 = 1) (some s14_0)
noncomputable def fE_isBelow_13 : Option (Int32) := fE_isBelow_14 0
noncomputable def fE_isBelow (a0 a1 : Int32) : Option (Int32) := if a0 < 0 then (fE_isBelow_13) else (if a1 ≤ a0 then (fE_isBelow_13) else (fE_isBelow_14 1))
set_option maxHeartbeats 4000000 in
set_option maxRecDepth 100000 in
theorem tE_isBelow (l : Launch) (G : va_G) (c3 : ClassId × ClassId × ClassId) (ad : Nat → Nat) (M : Mem) (a0 a1 : Int32) (out : Int32) (hf : fE_isBelow a0 a1 = some out) : RMet l yE_isBelow cE_isBelow 2 (some .boolean) (rm0_ 0 0) G kl SX c3 ad M [.int a0, .int a1] out := by
  refine RMet.of (by decide +kernel) (Nat.le_of_ble_eq_true rfl) (fun p e s m args below meth c ls F hT hK hP hr hlk hl => ?_)
  have hx := F.1
  have hb := F.2.1
  have F : CallFix p m c cE_isBelow 2 s args gw RE := F
  have hown := F.2.2.2.1
  have hl : lv_has ls 2 [(0, .int a0), (1, .int a1)] := hl
  have K14 : ∀ (s14_0 : Int32) (ls : Array Slot), lv_has ls 2 [] → fE_isBelow_14 s14_0 = some out → W p l e (rm0_ 0 0) s m args below meth c s.heap [] 0 0 (MQ below (QcRead out) args s 0 0 (fun _ => False)) (F0 m 14 ls [.int s14_0]) := by
    intro s14_0 ls  hl hf
    unfold fE_isBelow_14 at hf
    obtain ⟨z1, hf⟩ := xgd_some hf
    exact xr_zret hx hb hr hlk z1 (Option.some.inj hf) d_E_isBelow_14
  have K13 : ∀ (ls : Array Slot), lv_has ls 2 [] → fE_isBelow_13 = some out → W p l e (rm0_ 0 0) s m args below meth c s.heap [] 0 0 (MQ below (QcRead out) args s 0 0 (fun _ => False)) (F0 m 13 ls []) := by
    intro  ls  hl hf
    unfold fE_isBelow_13 at hf
    refine lv_iconst (v := 0) hx hb d_E_isBelow_13 rfl ?_
    exact K14 0 _  hl hf
  unfold fE_isBelow at hf
  refine lv_iload_n hx hb d_E_isBelow_0 rfl (lv_at hl 0 rfl) ?_
  refine lv_if_lt (tgt := 13) hx hb d_E_isBelow_1 rfl (fun hc => ?_) (fun hc => ?_)
  · have hf := ite_t hc hf
    exact K13  _  (lv_sub hl [] rfl) hf
  · have hf := ite_f hc hf
    refine lv_iload_n hx hb d_E_isBelow_4 rfl (lv_at hl 0 rfl) ?_
    refine lv_iload_n hx hb d_E_isBelow_5 rfl (lv_at hl 1 rfl) ?_
    refine lv_icmp_ge (tgt := 13) hx hb d_E_isBelow_6 rfl (fun hc => ?_) (fun hc => ?_)
    · have hf := ite_t hc hf
      exact K13  _  (lv_sub hl [] rfl) hf
    · have hf := ite_f hc hf
      refine lv_iconst (v := 1) hx hb d_E_isBelow_9 rfl ?_
      refine lv_goto (tgt := 14) hx hb d_E_isBelow_10 rfl ?_
      exact K14 1 _  (lv_sub hl [] rfl) hf
noncomputable def fE_isPaper (a0 : Int32) : Option (Int32) := xbd (fE_isBelow a0 9) (fun r1 => xgd (r1 = 0 ∨ r1 = 1) (some r1))
set_option maxHeartbeats 4000000 in
set_option maxRecDepth 100000 in
theorem tE_isPaper (l : Launch) (G : va_G) (c3 : ClassId × ClassId × ClassId) (ad : Nat → Nat) (M : Mem) (a0 : Int32) (out : Int32) (hf : fE_isPaper a0 = some out) : RMet l yE_isPaper cE_isPaper 1 (some .boolean) (rm0_ 1 21) G kl SX c3 ad M [.int a0] out := by
  refine RMet.of (by decide +kernel) (Nat.le_of_ble_eq_true rfl) (fun p e s m args below meth c ls F hT hK hP hr hlk hl => ?_)
  have hx := F.1
  have hb := F.2.1
  have F : CallFix p m c cE_isPaper 1 s args gw RE := F
  have hown := F.2.2.2.1
  have hl : lv_has ls 1 [(0, .int a0)] := hl
  unfold fE_isPaper at hf
  refine lv_iload_n hx hb d_E_isPaper_0 rfl (lv_at hl 0 rfl) ?_
  refine lv_bipush (v := 9) hx hb d_E_isPaper_1 rfl ?_
  obtain ⟨r1, hr1, hf⟩ := xbd_some hf
  refine xc_rs (rest := []) F hT hK hP (tE_isBelow l G c3 ad M a0 9 r1 hr1) wl_E_75 ws_E_isBelow wn_E wc_E_isBelow ck_E_isBelow ⟨rfl, rfl⟩ ⟨by decide, by decide⟩ ⟨Nat.le_refl _, Nat.le_refl _⟩ hl.1 rfl (Nat.le_of_ble_eq_true rfl) d_E_isPaper_3 ?_
  obtain ⟨z2, hf⟩ := xgd_some hf
  exact xr_zret hx hb hr hlk z2 (Option.some.inj hf) d_E_isPaper_6
noncomputable def fE_mustExist (a0 : Int32) : Option (Unit) := if a0 = 0 then (none) else (some ())
set_option maxHeartbeats 4000000 in
set_option maxRecDepth 100000 in
theorem tE_mustExist (l : Launch) (G : va_G) (c3 : ClassId × ClassId × ClassId) (ad : Nat → Nat) (M : Mem) (a0 : Int32)  {out : Unit} (hf : fE_mustExist a0 = some out) : VMet l yE_mustExist cE_mustExist 1 none (rm0_ 0 0) G kl SX c3 ad M [.int a0] := by
  refine VMet.of (by decide +kernel) (Nat.le_of_ble_eq_true rfl) (fun p e s m args below meth c ls F hT hK hP hr hlk hl => ?_)
  have hx := F.1
  have hb := F.2.1
  have F : CallFix p m c cE_mustExist 1 s args gw RE := F
  have hown := F.2.2.2.1
  have hl : lv_has ls 1 [(0, .int a0)] := hl
  unfold fE_mustExist at hf
  refine lv_iload_n hx hb d_E_mustExist_0 rfl (lv_at hl 0 rfl) ?_
  refine lv_if_ne (tgt := 14) hx hb d_E_mustExist_1 rfl (fun hc => ?_) (fun hc => ?_)
  · have hf := ite_f hc hf
    exact xr_vret hx hb hr hlk d_E_mustExist_14
  · have hf := ite_t hc hf
    exact no_some hf
noncomputable def fE_isUpTo_14 (s14_0 : Int32) : Option (Int32) := xgd (s14_0 = 0 ∨ s14_0 = 1) (some s14_0)
noncomputable def fE_isUpTo_13 : Option (Int32) := fE_isUpTo_14 0
noncomputable def fE_isUpTo (a0 a1 : Int32) : Option (Int32) := if a0 < 0 then (fE_isUpTo_13) else (if a1 < a0 then (fE_isUpTo_13) else (fE_isUpTo_14 1))
set_option maxHeartbeats 4000000 in
set_option maxRecDepth 100000 in
theorem tE_isUpTo (l : Launch) (G : va_G) (c3 : ClassId × ClassId × ClassId) (ad : Nat → Nat) (M : Mem) (a0 a1 : Int32) (out : Int32) (hf : fE_isUpTo a0 a1 = some out) : RMet l yE_isUpTo cE_isUpTo 2 (some .boolean) (rm0_ 0 0) G kl SX c3 ad M [.int a0, .int a1] out := by
  refine RMet.of (by decide +kernel) (Nat.le_of_ble_eq_true rfl) (fun p e s m args below meth c ls F hT hK hP hr hlk hl => ?_)
  have hx := F.1
  have hb := F.2.1
  have F : CallFix p m c cE_isUpTo 2 s args gw RE := F
  have hown := F.2.2.2.1
  have hl : lv_has ls 2 [(0, .int a0), (1, .int a1)] := hl
  have K14 : ∀ (s14_0 : Int32) (ls : Array Slot), lv_has ls 2 [] → fE_isUpTo_14 s14_0 = some out → W p l e (rm0_ 0 0) s m args below meth c s.heap [] 0 0 (MQ below (QcRead out) args s 0 0 (fun _ => False)) (F0 m 14 ls [.int s14_0]) := by
    intro s14_0 ls  hl hf
    unfold fE_isUpTo_14 at hf
    obtain ⟨z1, hf⟩ := xgd_some hf
    exact xr_zret hx hb hr hlk z1 (Option.some.inj hf) d_E_isUpTo_14
  have K13 : ∀ (ls : Array Slot), lv_has ls 2 [] → fE_isUpTo_13 = some out → W p l e (rm0_ 0 0) s m args below meth c s.heap [] 0 0 (MQ below (QcRead out) args s 0 0 (fun _ => False)) (F0 m 13 ls []) := by
    intro  ls  hl hf
    unfold fE_isUpTo_13 at hf
    refine lv_iconst (v := 0) hx hb d_E_isUpTo_13 rfl ?_
    exact K14 0 _  hl hf
  unfold fE_isUpTo at hf
  refine lv_iload_n hx hb d_E_isUpTo_0 rfl (lv_at hl 0 rfl) ?_
  refine lv_if_lt (tgt := 13) hx hb d_E_isUpTo_1 rfl (fun hc => ?_) (fun hc => ?_)
  · have hf := ite_t hc hf
    exact K13  _  (lv_sub hl [] rfl) hf
  · have hf := ite_f hc hf
    refine lv_iload_n hx hb d_E_isUpTo_4 rfl (lv_at hl 0 rfl) ?_
    refine lv_iload_n hx hb d_E_isUpTo_5 rfl (lv_at hl 1 rfl) ?_
    refine lv_icmp_gt (tgt := 13) hx hb d_E_isUpTo_6 rfl (fun hc => ?_) (fun hc => ?_)
    · have hf := ite_t hc hf
      exact K13  _  (lv_sub hl [] rfl) hf
    · have hf := ite_f hc hf
      refine lv_iconst (v := 1) hx hb d_E_isUpTo_9 rfl ?_
      refine lv_goto (tgt := 14) hx hb d_E_isUpTo_10 rfl ?_
      exact K14 1 _  (lv_sub hl [] rfl) hf
noncomputable def fE_mustBeAllowed (a0 : Int32) : Option (Unit) := if a0 = 0 then (none) else (some ())
set_option maxHeartbeats 4000000 in
set_option maxRecDepth 100000 in
theorem tE_mustBeAllowed (l : Launch) (G : va_G) (c3 : ClassId × ClassId × ClassId) (ad : Nat → Nat) (M : Mem) (a0 : Int32)  {out : Unit} (hf : fE_mustBeAllowed a0 = some out) : VMet l yE_mustBeAllowed cE_mustBeAllowed 1 none (rm0_ 0 0) G kl SX c3 ad M [.int a0] := by
  refine VMet.of (by decide +kernel) (Nat.le_of_ble_eq_true rfl) (fun p e s m args below meth c ls F hT hK hP hr hlk hl => ?_)
  have hx := F.1
  have hb := F.2.1
  have F : CallFix p m c cE_mustBeAllowed 1 s args gw RE := F
  have hown := F.2.2.2.1
  have hl : lv_has ls 1 [(0, .int a0)] := hl
  unfold fE_mustBeAllowed at hf
  refine lv_iload_n hx hb d_E_mustBeAllowed_0 rfl (lv_at hl 0 rfl) ?_
  refine lv_if_ne (tgt := 14) hx hb d_E_mustBeAllowed_1 rfl (fun hc => ?_) (fun hc => ?_)
  · have hf := ite_f hc hf
    exact xr_vret hx hb hr hlk d_E_mustBeAllowed_14
  · have hf := ite_t hc hf
    exact no_some hf
noncomputable def fE_paper (a1 a2 : Int32) (M : Mem) : Option (Int32 × Mem) := xbd (fE_isPaper a1) (fun r1 => xbd (fE_mustExist r1) (fun _ => xbd (fE_isUpTo a2 300) (fun r3 => xbd (fE_mustBeAllowed r3) (fun _ => xbd (fE_dropPlan  M) (fun r5 => xgd (vp_in a1 9) (xlt ((r5 2 a1.toNatClampNeg)) (fun x7 => xgd (vp_in a1 9) (xlt (up2 r5 2 a1.toNatClampNeg a2) (fun M9 => some (x7, M9))))))))))
set_option maxHeartbeats 4000000 in
set_option maxRecDepth 100000 in
theorem tE_paper (l : Launch) (G : va_G) (c3 : ClassId × ClassId × ClassId) (ad : Nat → Nat) (hd : adI SX ad) (M : Mem) (a1 a2 : Int32) (o1 : Int32) (o2 : Mem) (hf : fE_paper a1 a2 M = some (o1, o2)) : WMet l yE_paper cE_paper 4 (some .int) (rm0_ 3 64) G kl SX c3 ad M [.ref (ad 0), .int a1, .int a2] (some (.int o1)) o2 := by
  generalize hout : (o1, o2) = out at hf
  obtain rfl : out.1 = o1 := by rw [← hout]
  obtain rfl : out.2 = o2 := by rw [← hout]
  clear hout
  refine WMet.of (by decide +kernel) (Nat.le_of_ble_eq_true rfl) (fun p e s m args below meth c ls F hT hK hP hr hlk hl hS => ?_)
  have hx := F.1
  have hb := F.2.1
  have F : CallFix p m c cE_paper 4 s args gw RE := F
  have hown := F.2.2.2.1
  have hl : lv_has ls 4 [(0, .ref (ad 0)), (1, .int a1), (2, .int a2)] := hl
  revert hP hS
  suffices hall : ∀ (H : Heap) (locs : List Loc), va_P G kl (wd SX c3 ad M) H → va_S (adA SX ad) s.heap H locs → W p l e (rm0_ 3 64) s m args below meth c H locs 0 0 (MQ below (QW G kl SX c3 ad (some (.int out.1)) out.2) args s 0 0 (adA SX ad)) (F0 m 0 ls []) from hall s.heap []
  intro H locs hP hS
  unfold fE_paper at hf
  refine lv_iload_n hx hb d_E_paper_0 rfl (lv_at hl 1 rfl) ?_
  obtain ⟨r1, hr1, hf⟩ := xbd_some hf
  refine xc_rs (rest := []) F hT hK hP (tE_isPaper l G c3 ad M a1 r1 hr1) wl_E_30 ws_E_isPaper wn_E wc_E_isPaper ck_E_isPaper ⟨rfl, rfl⟩ ⟨by decide, by decide⟩ ⟨Nat.le_refl _, Nat.le_refl _⟩ hl.1 rfl (Nat.le_of_ble_eq_true rfl) d_E_paper_1 ?_
  obtain ⟨r2, hr2, hf⟩ := xbd_some hf
  refine xc_vs (rest := []) F hT hK hP (tE_mustExist l G c3 ad M r1 hr2) wl_E_34 ws_E_mustExist wn_E wc_E_mustExist ck_E_mustExist ⟨rfl, rfl⟩ ⟨by decide, by decide⟩ ⟨Nat.le_refl _, Nat.le_refl _⟩ hl.1 rfl (Nat.le_of_ble_eq_true rfl) d_E_paper_4 ?_
  refine lv_iload_n hx hb d_E_paper_7 rfl (lv_at hl 2 rfl) ?_
  refine lv_sipush (v := 300) hx hb d_E_paper_8 rfl ?_
  obtain ⟨r3, hr3, hf⟩ := xbd_some hf
  refine xc_rs (rest := []) F hT hK hP (tE_isUpTo l G c3 ad M a2 300 r3 hr3) wl_E_38 ws_E_isUpTo wn_E wc_E_isUpTo ck_E_isUpTo ⟨rfl, rfl⟩ ⟨by decide, by decide⟩ ⟨Nat.le_refl _, Nat.le_refl _⟩ hl.1 rfl (Nat.le_of_ble_eq_true rfl) d_E_paper_11 ?_
  obtain ⟨r4, hr4, hf⟩ := xbd_some hf
  refine xc_vs (rest := []) F hT hK hP (tE_mustBeAllowed l G c3 ad M r3 hr4) wl_E_42 ws_E_mustBeAllowed wn_E wc_E_mustBeAllowed ck_E_mustBeAllowed ⟨rfl, rfl⟩ ⟨by decide, by decide⟩ ⟨Nat.le_refl _, Nat.le_refl _⟩ hl.1 rfl (Nat.le_of_ble_eq_true rfl) d_E_paper_14 ?_
  refine lv_aload_n hx hb d_E_paper_17 rfl (lv_at hl 0 rfl) ?_
  obtain ⟨r5, hr5, hf⟩ := xbd_some hf
  refine xc_wv (rest := []) F hT hK hP hS (fun _ h => h) (tE_dropPlan l G c3 ad hd M  r5 hr5) sX_0 rfl wl_E_45 wi_E_dropPlan we_E_dropPlan wn_E wc_E_dropPlan ck_E_dropPlan ⟨rfl, rfl⟩ ⟨by decide, by decide⟩ ⟨Nat.le_refl _, Nat.le_refl _⟩ hl.1 rfl (Nat.le_of_ble_eq_true rfl) d_E_paper_18 (fun H locs hP hS _ => ?_)
  refine lv_aload_n hx hb d_E_paper_21 rfl (lv_at hl 0 rfl) ?_
  refine xr_getr hx hb hT hown hK hP sX_0 rfl inE 0 (by decide) wf_E_12 rfl d_E_paper_22 ?_
  refine xr_getr hx hb hT hown hK hP sX_1 rfl inT 0 (by decide) wf_E_48 rfl d_E_paper_25 ?_
  refine lv_iload_n hx hb d_E_paper_28 rfl (lv_at hl 1 rfl) ?_
  obtain ⟨g6, hf⟩ := xgd_some hf
  refine xr_iald hx hb hK hP sX_2 g6 d_E_paper_29 ?_
  obtain ⟨x7, hx7, hf⟩ := xlt_some hf
  refine xr_name hx7 ?_
  refine lv_istore_n (lv' := [(3, .int x7), (0, .ref (ad 0)), (1, .int a1), (2, .int a2)]) hx hb d_E_paper_30 rfl hl (by decide) rfl (fun ls hl => ?_)
  refine lv_aload_n hx hb d_E_paper_31 rfl (lv_at hl 1 rfl) ?_
  refine xr_getr hx hb hT hown hK hP sX_0 rfl inE 0 (by decide) wf_E_12 rfl d_E_paper_32 ?_
  refine xr_getr hx hb hT hown hK hP sX_1 rfl inT 0 (by decide) wf_E_48 rfl d_E_paper_35 ?_
  refine lv_iload_n hx hb d_E_paper_38 rfl (lv_at hl 2 rfl) ?_
  refine lv_iload_n hx hb d_E_paper_39 rfl (lv_at hl 3 rfl) ?_
  obtain ⟨g8, hf⟩ := xgd_some hf
  obtain ⟨M9, hM9, hf⟩ := xlt_some hf
  refine xr_iast hx hb hd hK hP hS sX_2 g8 d_E_paper_40 (fun H locs hP hS => ?_)
  rw [hM9] at hP
  refine lv_iload_n hx hb d_E_paper_41 rfl (lv_at hl 0 rfl) ?_
  exact xw_iret hx hb hr hlk hP hS (Option.some.inj hf) d_E_paper_42
noncomputable def fE_isSession (a0 : Int32) : Option (Int32) := xbd (fE_isBelow a0 6) (fun r1 => xgd (r1 = 0 ∨ r1 = 1) (some r1))
set_option maxHeartbeats 4000000 in
set_option maxRecDepth 100000 in
theorem tE_isSession (l : Launch) (G : va_G) (c3 : ClassId × ClassId × ClassId) (ad : Nat → Nat) (M : Mem) (a0 : Int32) (out : Int32) (hf : fE_isSession a0 = some out) : RMet l yE_isSession cE_isSession 1 (some .boolean) (rm0_ 1 21) G kl SX c3 ad M [.int a0] out := by
  refine RMet.of (by decide +kernel) (Nat.le_of_ble_eq_true rfl) (fun p e s m args below meth c ls F hT hK hP hr hlk hl => ?_)
  have hx := F.1
  have hb := F.2.1
  have F : CallFix p m c cE_isSession 1 s args gw RE := F
  have hown := F.2.2.2.1
  have hl : lv_has ls 1 [(0, .int a0)] := hl
  unfold fE_isSession at hf
  refine lv_iload_n hx hb d_E_isSession_0 rfl (lv_at hl 0 rfl) ?_
  refine lv_bipush (v := 6) hx hb d_E_isSession_1 rfl ?_
  obtain ⟨r1, hr1, hf⟩ := xbd_some hf
  refine xc_rs (rest := []) F hT hK hP (tE_isBelow l G c3 ad M a0 6 r1 hr1) wl_E_75 ws_E_isBelow wn_E wc_E_isBelow ck_E_isBelow ⟨rfl, rfl⟩ ⟨by decide, by decide⟩ ⟨Nat.le_refl _, Nat.le_refl _⟩ hl.1 rfl (Nat.le_of_ble_eq_true rfl) d_E_isSession_3 ?_
  obtain ⟨z2, hf⟩ := xgd_some hf
  exact xr_zret hx hb hr hlk z2 (Option.some.inj hf) d_E_isSession_6
noncomputable def fE_session (a1 a2 : Int32) (M : Mem) : Option (Int32 × Mem) := xbd (fE_isSession a1) (fun r1 => xbd (fE_mustExist r1) (fun _ => xbd (fE_isUpTo a2 300) (fun r3 => xbd (fE_mustBeAllowed r3) (fun _ => xbd (fE_dropPlan  M) (fun r5 => xgd (vp_in a1 6) (xlt ((r5 3 a1.toNatClampNeg)) (fun x7 => xgd (vp_in a1 6) (xlt (up2 r5 3 a1.toNatClampNeg a2) (fun M9 => some (x7, M9))))))))))
set_option maxHeartbeats 4000000 in
set_option maxRecDepth 100000 in
theorem tE_session (l : Launch) (G : va_G) (c3 : ClassId × ClassId × ClassId) (ad : Nat → Nat) (hd : adI SX ad) (M : Mem) (a1 a2 : Int32) (o1 : Int32) (o2 : Mem) (hf : fE_session a1 a2 M = some (o1, o2)) : WMet l yE_session cE_session 4 (some .int) (rm0_ 3 64) G kl SX c3 ad M [.ref (ad 0), .int a1, .int a2] (some (.int o1)) o2 := by
  generalize hout : (o1, o2) = out at hf
  obtain rfl : out.1 = o1 := by rw [← hout]
  obtain rfl : out.2 = o2 := by rw [← hout]
  clear hout
  refine WMet.of (by decide +kernel) (Nat.le_of_ble_eq_true rfl) (fun p e s m args below meth c ls F hT hK hP hr hlk hl hS => ?_)
  have hx := F.1
  have hb := F.2.1
  have F : CallFix p m c cE_session 4 s args gw RE := F
  have hown := F.2.2.2.1
  have hl : lv_has ls 4 [(0, .ref (ad 0)), (1, .int a1), (2, .int a2)] := hl
  revert hP hS
  suffices hall : ∀ (H : Heap) (locs : List Loc), va_P G kl (wd SX c3 ad M) H → va_S (adA SX ad) s.heap H locs → W p l e (rm0_ 3 64) s m args below meth c H locs 0 0 (MQ below (QW G kl SX c3 ad (some (.int out.1)) out.2) args s 0 0 (adA SX ad)) (F0 m 0 ls []) from hall s.heap []
  intro H locs hP hS
  unfold fE_session at hf
  refine lv_iload_n hx hb d_E_session_0 rfl (lv_at hl 1 rfl) ?_
  obtain ⟨r1, hr1, hf⟩ := xbd_some hf
  refine xc_rs (rest := []) F hT hK hP (tE_isSession l G c3 ad M a1 r1 hr1) wl_E_52 ws_E_isSession wn_E wc_E_isSession ck_E_isSession ⟨rfl, rfl⟩ ⟨by decide, by decide⟩ ⟨Nat.le_refl _, Nat.le_refl _⟩ hl.1 rfl (Nat.le_of_ble_eq_true rfl) d_E_session_1 ?_
  obtain ⟨r2, hr2, hf⟩ := xbd_some hf
  refine xc_vs (rest := []) F hT hK hP (tE_mustExist l G c3 ad M r1 hr2) wl_E_34 ws_E_mustExist wn_E wc_E_mustExist ck_E_mustExist ⟨rfl, rfl⟩ ⟨by decide, by decide⟩ ⟨Nat.le_refl _, Nat.le_refl _⟩ hl.1 rfl (Nat.le_of_ble_eq_true rfl) d_E_session_4 ?_
  refine lv_iload_n hx hb d_E_session_7 rfl (lv_at hl 2 rfl) ?_
  refine lv_sipush (v := 300) hx hb d_E_session_8 rfl ?_
  obtain ⟨r3, hr3, hf⟩ := xbd_some hf
  refine xc_rs (rest := []) F hT hK hP (tE_isUpTo l G c3 ad M a2 300 r3 hr3) wl_E_38 ws_E_isUpTo wn_E wc_E_isUpTo ck_E_isUpTo ⟨rfl, rfl⟩ ⟨by decide, by decide⟩ ⟨Nat.le_refl _, Nat.le_refl _⟩ hl.1 rfl (Nat.le_of_ble_eq_true rfl) d_E_session_11 ?_
  obtain ⟨r4, hr4, hf⟩ := xbd_some hf
  refine xc_vs (rest := []) F hT hK hP (tE_mustBeAllowed l G c3 ad M r3 hr4) wl_E_42 ws_E_mustBeAllowed wn_E wc_E_mustBeAllowed ck_E_mustBeAllowed ⟨rfl, rfl⟩ ⟨by decide, by decide⟩ ⟨Nat.le_refl _, Nat.le_refl _⟩ hl.1 rfl (Nat.le_of_ble_eq_true rfl) d_E_session_14 ?_
  refine lv_aload_n hx hb d_E_session_17 rfl (lv_at hl 0 rfl) ?_
  obtain ⟨r5, hr5, hf⟩ := xbd_some hf
  refine xc_wv (rest := []) F hT hK hP hS (fun _ h => h) (tE_dropPlan l G c3 ad hd M  r5 hr5) sX_0 rfl wl_E_45 wi_E_dropPlan we_E_dropPlan wn_E wc_E_dropPlan ck_E_dropPlan ⟨rfl, rfl⟩ ⟨by decide, by decide⟩ ⟨Nat.le_refl _, Nat.le_refl _⟩ hl.1 rfl (Nat.le_of_ble_eq_true rfl) d_E_session_18 (fun H locs hP hS _ => ?_)
  refine lv_aload_n hx hb d_E_session_21 rfl (lv_at hl 0 rfl) ?_
  refine xr_getr hx hb hT hown hK hP sX_0 rfl inE 0 (by decide) wf_E_12 rfl d_E_session_22 ?_
  refine xr_getr hx hb hT hown hK hP sX_1 rfl inT 1 (by decide) wf_E_55 rfl d_E_session_25 ?_
  refine lv_iload_n hx hb d_E_session_28 rfl (lv_at hl 1 rfl) ?_
  obtain ⟨g6, hf⟩ := xgd_some hf
  refine xr_iald hx hb hK hP sX_3 g6 d_E_session_29 ?_
  obtain ⟨x7, hx7, hf⟩ := xlt_some hf
  refine xr_name hx7 ?_
  refine lv_istore_n (lv' := [(3, .int x7), (0, .ref (ad 0)), (1, .int a1), (2, .int a2)]) hx hb d_E_session_30 rfl hl (by decide) rfl (fun ls hl => ?_)
  refine lv_aload_n hx hb d_E_session_31 rfl (lv_at hl 1 rfl) ?_
  refine xr_getr hx hb hT hown hK hP sX_0 rfl inE 0 (by decide) wf_E_12 rfl d_E_session_32 ?_
  refine xr_getr hx hb hT hown hK hP sX_1 rfl inT 1 (by decide) wf_E_55 rfl d_E_session_35 ?_
  refine lv_iload_n hx hb d_E_session_38 rfl (lv_at hl 2 rfl) ?_
  refine lv_iload_n hx hb d_E_session_39 rfl (lv_at hl 3 rfl) ?_
  obtain ⟨g8, hf⟩ := xgd_some hf
  obtain ⟨M9, hM9, hf⟩ := xlt_some hf
  refine xr_iast hx hb hd hK hP hS sX_3 g8 d_E_session_40 (fun H locs hP hS => ?_)
  rw [hM9] at hP
  refine lv_iload_n hx hb d_E_session_41 rfl (lv_at hl 0 rfl) ?_
  exact xw_iret hx hb hr hlk hP hS (Option.some.inj hf) d_E_session_42
noncomputable def fE_isCandidate (a0 : Int32) : Option (Int32) := xbd (fE_isBelow a0 40) (fun r1 => xgd (r1 = 0 ∨ r1 = 1) (some r1))
set_option maxHeartbeats 4000000 in
set_option maxRecDepth 100000 in
theorem tE_isCandidate (l : Launch) (G : va_G) (c3 : ClassId × ClassId × ClassId) (ad : Nat → Nat) (M : Mem) (a0 : Int32) (out : Int32) (hf : fE_isCandidate a0 = some out) : RMet l yE_isCandidate cE_isCandidate 1 (some .boolean) (rm0_ 1 21) G kl SX c3 ad M [.int a0] out := by
  refine RMet.of (by decide +kernel) (Nat.le_of_ble_eq_true rfl) (fun p e s m args below meth c ls F hT hK hP hr hlk hl => ?_)
  have hx := F.1
  have hb := F.2.1
  have F : CallFix p m c cE_isCandidate 1 s args gw RE := F
  have hown := F.2.2.2.1
  have hl : lv_has ls 1 [(0, .int a0)] := hl
  unfold fE_isCandidate at hf
  refine lv_iload_n hx hb d_E_isCandidate_0 rfl (lv_at hl 0 rfl) ?_
  refine lv_bipush (v := 40) hx hb d_E_isCandidate_1 rfl ?_
  obtain ⟨r1, hr1, hf⟩ := xbd_some hf
  refine xc_rs (rest := []) F hT hK hP (tE_isBelow l G c3 ad M a0 40 r1 hr1) wl_E_75 ws_E_isBelow wn_E wc_E_isBelow ck_E_isBelow ⟨rfl, rfl⟩ ⟨by decide, by decide⟩ ⟨Nat.le_refl _, Nat.le_refl _⟩ hl.1 rfl (Nat.le_of_ble_eq_true rfl) d_E_isCandidate_3 ?_
  obtain ⟨z2, hf⟩ := xgd_some hf
  exact xr_zret hx hb hr hlk z2 (Option.some.inj hf) d_E_isCandidate_6
noncomputable def fE_enrol_19 (v1 v2 v3 s19_0 : Int32) (M : Mem) : Option (Int32 × Mem) := xbd (fE_mustExist s19_0) (fun _ => xgd (vp_in v1 40) (xlt ((M 4 v1.toNatClampNeg)) (fun x3 => xbd (fE_has x3 v2) (fun r4 => if r4 = v3 then (xgd ((0 : Int32) = 0 ∨ (0 : Int32) = 1) (some (0, M))) else (xbd (fE_dropPlan  M) (fun r5 => xbd (fE_with x3 v2 v3) (fun r6 => xgd (vp_in v1 40) (xlt (up2 r5 4 v1.toNatClampNeg r6) (fun M8 => xgd ((1 : Int32) = 0 ∨ (1 : Int32) = 1) (some (1, M8)))))))))))
noncomputable def fE_enrol_18 (v1 v2 v3 : Int32) (M : Mem) : Option (Int32 × Mem) := fE_enrol_19 v1 v2 v3 0 M
noncomputable def fE_enrol (a1 a2 a3 : Int32) (M : Mem) : Option (Int32 × Mem) := xbd (fE_isCandidate a1) (fun r11 => if r11 = 0 then (fE_enrol_18 a1 a2 a3 M) else (xbd (fE_isPaper a2) (fun r12 => if r12 = 0 then (fE_enrol_18 a1 a2 a3 M) else (fE_enrol_19 a1 a2 a3 1 M))))
set_option maxHeartbeats 4000000 in
set_option maxRecDepth 100000 in
theorem tE_enrol (l : Launch) (G : va_G) (c3 : ClassId × ClassId × ClassId) (ad : Nat → Nat) (hd : adI SX ad) (M : Mem) (a1 a2 a3 : Int32) (o1 : Int32) (o2 : Mem) (hf : fE_enrol a1 a2 a3 M = some (o1, o2)) : WMet l yE_enrol cE_enrol 5 (some .boolean) (rm0_ 3 64) G kl SX c3 ad M [.ref (ad 0), .int a1, .int a2, .int a3] (some (.int o1)) o2 := by
  generalize hout : (o1, o2) = out at hf
  obtain rfl : out.1 = o1 := by rw [← hout]
  obtain rfl : out.2 = o2 := by rw [← hout]
  clear hout
  refine WMet.of (by decide +kernel) (Nat.le_of_ble_eq_true rfl) (fun p e s m args below meth c ls F hT hK hP hr hlk hl hS => ?_)
  have hx := F.1
  have hb := F.2.1
  have F : CallFix p m c cE_enrol 5 s args gw RE := F
  have hown := F.2.2.2.1
  have hl : lv_has ls 5 [(0, .ref (ad 0)), (1, .int a1), (2, .int a2), (3, .int a3)] := hl
  revert hP hS
  suffices hall : ∀ (H : Heap) (locs : List Loc), va_P G kl (wd SX c3 ad M) H → va_S (adA SX ad) s.heap H locs → W p l e (rm0_ 3 64) s m args below meth c H locs 0 0 (MQ below (QW G kl SX c3 ad (some (.int out.1)) out.2) args s 0 0 (adA SX ad)) (F0 m 0 ls []) from hall s.heap []
  intro H locs hP hS
  have K19 : ∀ (v1 v2 v3 s19_0 : Int32) (M : Mem) (H : Heap) (locs : List Loc) (ls : Array Slot), lv_has ls 5 [(0, .ref (ad 0)), (1, .int v1), (2, .int v2), (3, .int v3)] → va_P G kl (wd SX c3 ad M) H → va_S (adA SX ad) s.heap H locs → fE_enrol_19 v1 v2 v3 s19_0 M = some out → W p l e (rm0_ 3 64) s m args below meth c H locs 0 0 (MQ below (QW G kl SX c3 ad (some (.int out.1)) out.2) args s 0 0 (adA SX ad)) (F0 m 19 ls [.int s19_0]) := by
    intro v1 v2 v3 s19_0 M H locs ls  hl hP hS hf
    unfold fE_enrol_19 at hf
    obtain ⟨r1, hr1, hf⟩ := xbd_some hf
    refine xc_vs (rest := []) F hT hK hP (tE_mustExist l G c3 ad M s19_0 hr1) wl_E_34 ws_E_mustExist wn_E wc_E_mustExist ck_E_mustExist ⟨rfl, rfl⟩ ⟨by decide, by decide⟩ ⟨Nat.le_refl _, Nat.le_refl _⟩ hl.1 rfl (Nat.le_of_ble_eq_true rfl) d_E_enrol_19 ?_
    refine lv_aload_n hx hb d_E_enrol_22 rfl (lv_at hl 0 rfl) ?_
    refine xr_getr hx hb hT hown hK hP sX_0 rfl inE 0 (by decide) wf_E_12 rfl d_E_enrol_23 ?_
    refine xr_getr hx hb hT hown hK hP sX_1 rfl inT 2 (by decide) wf_E_61 rfl d_E_enrol_26 ?_
    refine lv_iload_n hx hb d_E_enrol_29 rfl (lv_at hl 1 rfl) ?_
    obtain ⟨g2, hf⟩ := xgd_some hf
    refine xr_iald hx hb hK hP sX_4 g2 d_E_enrol_30 ?_
    obtain ⟨x3, hx3, hf⟩ := xlt_some hf
    refine xr_name hx3 ?_
    refine lv_istore (lv' := [(4, .int x3), (0, .ref (ad 0)), (1, .int v1), (2, .int v2), (3, .int v3)]) hx hb d_E_enrol_31 hl (by decide) rfl (fun ls hl => ?_)
    refine lv_iload hx hb d_E_enrol_33 (lv_at hl 0 rfl) ?_
    refine lv_iload_n hx hb d_E_enrol_35 rfl (lv_at hl 3 rfl) ?_
    obtain ⟨r4, hr4, hf⟩ := xbd_some hf
    refine xc_rs (rest := []) F hT hK hP (tE_has l G c3 ad M x3 v2 r4 hr4) wl_E_64 ws_E_has wn_E wc_E_has ck_E_has ⟨rfl, rfl⟩ ⟨by decide, by decide⟩ ⟨Nat.le_refl _, Nat.le_refl _⟩ hl.1 rfl (Nat.le_of_ble_eq_true rfl) d_E_enrol_36 ?_
    refine lv_iload_n hx hb d_E_enrol_39 rfl (lv_at hl 4 rfl) ?_
    refine lv_icmp_ne (tgt := 45) hx hb d_E_enrol_40 rfl (fun hc => ?_) (fun hc => ?_)
    · have hf := ite_f hc hf
      refine lv_aload_n hx hb d_E_enrol_45 rfl (lv_at hl 1 rfl) ?_
      obtain ⟨r5, hr5, hf⟩ := xbd_some hf
      refine xc_wv (rest := []) F hT hK hP hS (fun _ h => h) (tE_dropPlan l G c3 ad hd M  r5 hr5) sX_0 rfl wl_E_45 wi_E_dropPlan we_E_dropPlan wn_E wc_E_dropPlan ck_E_dropPlan ⟨rfl, rfl⟩ ⟨by decide, by decide⟩ ⟨Nat.le_refl _, Nat.le_refl _⟩ hl.1 rfl (Nat.le_of_ble_eq_true rfl) d_E_enrol_46 (fun H locs hP hS _ => ?_)
      refine lv_aload_n hx hb d_E_enrol_49 rfl (lv_at hl 1 rfl) ?_
      refine xr_getr hx hb hT hown hK hP sX_0 rfl inE 0 (by decide) wf_E_12 rfl d_E_enrol_50 ?_
      refine xr_getr hx hb hT hown hK hP sX_1 rfl inT 2 (by decide) wf_E_61 rfl d_E_enrol_53 ?_
      refine lv_iload_n hx hb d_E_enrol_56 rfl (lv_at hl 2 rfl) ?_
      refine lv_iload hx hb d_E_enrol_57 (lv_at hl 0 rfl) ?_
      refine lv_iload_n hx hb d_E_enrol_59 rfl (lv_at hl 3 rfl) ?_
      refine lv_iload_n hx hb d_E_enrol_60 rfl (lv_at hl 4 rfl) ?_
      obtain ⟨r6, hr6, hf⟩ := xbd_some hf
      refine xc_rs (rest := [.int v1, .ref (ad 4)]) F hT hK hP (tE_with l G c3 ad r5 x3 v2 v3 r6 hr6) wl_E_67 ws_E_with wn_E wc_E_with ck_E_with ⟨rfl, rfl⟩ ⟨by decide, by decide⟩ ⟨Nat.le_refl _, Nat.le_refl _⟩ hl.1 rfl (Nat.le_of_ble_eq_true rfl) d_E_enrol_61 ?_
      obtain ⟨g7, hf⟩ := xgd_some hf
      obtain ⟨M8, hM8, hf⟩ := xlt_some hf
      refine xr_iast hx hb hd hK hP hS sX_4 g7 d_E_enrol_64 (fun H locs hP hS => ?_)
      rw [hM8] at hP
      refine lv_iconst (v := 1) hx hb d_E_enrol_65 rfl ?_
      obtain ⟨z9, hf⟩ := xgd_some hf
      exact xw_zret hx hb hr hlk hP hS z9 (Option.some.inj hf) d_E_enrol_66
    · have hf := ite_t hc hf
      refine lv_iconst (v := 0) hx hb d_E_enrol_43 rfl ?_
      obtain ⟨z10, hf⟩ := xgd_some hf
      exact xw_zret hx hb hr hlk hP hS z10 (Option.some.inj hf) d_E_enrol_44
  have K18 : ∀ (v1 v2 v3 : Int32) (M : Mem) (H : Heap) (locs : List Loc) (ls : Array Slot), lv_has ls 5 [(0, .ref (ad 0)), (1, .int v1), (2, .int v2), (3, .int v3)] → va_P G kl (wd SX c3 ad M) H → va_S (adA SX ad) s.heap H locs → fE_enrol_18 v1 v2 v3 M = some out → W p l e (rm0_ 3 64) s m args below meth c H locs 0 0 (MQ below (QW G kl SX c3 ad (some (.int out.1)) out.2) args s 0 0 (adA SX ad)) (F0 m 18 ls []) := by
    intro v1 v2 v3 M H locs ls  hl hP hS hf
    unfold fE_enrol_18 at hf
    refine lv_iconst (v := 0) hx hb d_E_enrol_18 rfl ?_
    exact K19 v1 v2 v3 0 M _ _ _  hl hP hS hf
  unfold fE_enrol at hf
  refine lv_iload_n hx hb d_E_enrol_0 rfl (lv_at hl 1 rfl) ?_
  obtain ⟨r11, hr11, hf⟩ := xbd_some hf
  refine xc_rs (rest := []) F hT hK hP (tE_isCandidate l G c3 ad M a1 r11 hr11) wl_E_58 ws_E_isCandidate wn_E wc_E_isCandidate ck_E_isCandidate ⟨rfl, rfl⟩ ⟨by decide, by decide⟩ ⟨Nat.le_refl _, Nat.le_refl _⟩ hl.1 rfl (Nat.le_of_ble_eq_true rfl) d_E_enrol_1 ?_
  refine lv_if_eq (tgt := 18) hx hb d_E_enrol_4 rfl (fun hc => ?_) (fun hc => ?_)
  · have hf := ite_t hc hf
    exact K18 a1 a2 a3 M _ _ _  hl hP hS hf
  · have hf := ite_f hc hf
    refine lv_iload_n hx hb d_E_enrol_7 rfl (lv_at hl 2 rfl) ?_
    obtain ⟨r12, hr12, hf⟩ := xbd_some hf
    refine xc_rs (rest := []) F hT hK hP (tE_isPaper l G c3 ad M a2 r12 hr12) wl_E_30 ws_E_isPaper wn_E wc_E_isPaper ck_E_isPaper ⟨rfl, rfl⟩ ⟨by decide, by decide⟩ ⟨Nat.le_refl _, Nat.le_refl _⟩ hl.1 rfl (Nat.le_of_ble_eq_true rfl) d_E_enrol_8 ?_
    refine lv_if_eq (tgt := 18) hx hb d_E_enrol_11 rfl (fun hc => ?_) (fun hc => ?_)
    · have hf := ite_t hc hf
      exact K18 a1 a2 a3 M _ _ _  hl hP hS hf
    · have hf := ite_f hc hf
      refine lv_iconst (v := 1) hx hb d_E_enrol_14 rfl ?_
      refine lv_goto (tgt := 19) hx hb d_E_enrol_15 rfl ?_
      exact K19 a1 a2 a3 1 M _ _ _  hl hP hS hf
noncomputable def fE_extra_25 (v1 v2 s25_0 : Int32) (M : Mem) : Option (Int32 × Mem) := xgd (vp_in v1 40) (xlt (up2 M 5 v1.toNatClampNeg (vp_nar .boolean v2)) (fun M2 => xgd (s25_0 = 0 ∨ s25_0 = 1) (some (s25_0, M2))))
noncomputable def fE_extra (a1 a2 : Int32) (M : Mem) : Option (Int32 × Mem) := xbd (fE_isCandidate a1) (fun r4 => xbd (fE_mustExist r4) (fun _ => xgd (vp_in a1 40) (if (M 5 a1.toNatClampNeg) = a2 then (fE_extra_25 a1 a2 0 M) else (fE_extra_25 a1 a2 1 M))))
set_option maxHeartbeats 4000000 in
set_option maxRecDepth 100000 in
theorem tE_extra (l : Launch) (G : va_G) (c3 : ClassId × ClassId × ClassId) (ad : Nat → Nat) (hd : adI SX ad) (M : Mem) (a1 a2 : Int32) (o1 : Int32) (o2 : Mem) (hf : fE_extra a1 a2 M = some (o1, o2)) : WMet l yE_extra cE_extra 4 (some .boolean) (rm0_ 2 41) G kl SX c3 ad M [.ref (ad 0), .int a1, .int a2] (some (.int o1)) o2 := by
  generalize hout : (o1, o2) = out at hf
  obtain rfl : out.1 = o1 := by rw [← hout]
  obtain rfl : out.2 = o2 := by rw [← hout]
  clear hout
  refine WMet.of (by decide +kernel) (Nat.le_of_ble_eq_true rfl) (fun p e s m args below meth c ls F hT hK hP hr hlk hl hS => ?_)
  have hx := F.1
  have hb := F.2.1
  have F : CallFix p m c cE_extra 4 s args gw RE := F
  have hown := F.2.2.2.1
  have hl : lv_has ls 4 [(0, .ref (ad 0)), (1, .int a1), (2, .int a2)] := hl
  revert hP hS
  suffices hall : ∀ (H : Heap) (locs : List Loc), va_P G kl (wd SX c3 ad M) H → va_S (adA SX ad) s.heap H locs → W p l e (rm0_ 2 41) s m args below meth c H locs 0 0 (MQ below (QW G kl SX c3 ad (some (.int out.1)) out.2) args s 0 0 (adA SX ad)) (F0 m 0 ls []) from hall s.heap []
  intro H locs hP hS
  have K25 : ∀ (v1 v2 s25_0 : Int32) (M : Mem) (H : Heap) (locs : List Loc) (ls : Array Slot), lv_has ls 4 [(0, .ref (ad 0)), (1, .int v1), (2, .int v2)] → va_P G kl (wd SX c3 ad M) H → va_S (adA SX ad) s.heap H locs → fE_extra_25 v1 v2 s25_0 M = some out → W p l e (rm0_ 2 41) s m args below meth c H locs 0 0 (MQ below (QW G kl SX c3 ad (some (.int out.1)) out.2) args s 0 0 (adA SX ad)) (F0 m 25 ls [.int s25_0]) := by
    intro v1 v2 s25_0 M H locs ls  hl hP hS hf
    unfold fE_extra_25 at hf
    refine lv_istore_n (lv' := [(3, .int s25_0), (0, .ref (ad 0)), (1, .int v1), (2, .int v2)]) hx hb d_E_extra_25 rfl hl (by decide) rfl (fun ls hl => ?_)
    refine lv_aload_n hx hb d_E_extra_26 rfl (lv_at hl 1 rfl) ?_
    refine xr_getr hx hb hT hown hK hP sX_0 rfl inE 0 (by decide) wf_E_12 rfl d_E_extra_27 ?_
    refine xr_getr hx hb hT hown hK hP sX_1 rfl inT 3 (by decide) wf_E_71 rfl d_E_extra_30 ?_
    refine lv_iload_n hx hb d_E_extra_33 rfl (lv_at hl 2 rfl) ?_
    refine lv_iload_n hx hb d_E_extra_34 rfl (lv_at hl 3 rfl) ?_
    obtain ⟨g1, hf⟩ := xgd_some hf
    obtain ⟨M2, hM2, hf⟩ := xlt_some hf
    refine xr_zast hx hb hd hK hP hS sX_5 g1 d_E_extra_35 (fun H locs hP hS => ?_)
    rw [hM2] at hP
    refine lv_iload_n hx hb d_E_extra_36 rfl (lv_at hl 0 rfl) ?_
    obtain ⟨z3, hf⟩ := xgd_some hf
    exact xw_zret hx hb hr hlk hP hS z3 (Option.some.inj hf) d_E_extra_37
  unfold fE_extra at hf
  refine lv_iload_n hx hb d_E_extra_0 rfl (lv_at hl 1 rfl) ?_
  obtain ⟨r4, hr4, hf⟩ := xbd_some hf
  refine xc_rs (rest := []) F hT hK hP (tE_isCandidate l G c3 ad M a1 r4 hr4) wl_E_58 ws_E_isCandidate wn_E wc_E_isCandidate ck_E_isCandidate ⟨rfl, rfl⟩ ⟨by decide, by decide⟩ ⟨Nat.le_refl _, Nat.le_refl _⟩ hl.1 rfl (Nat.le_of_ble_eq_true rfl) d_E_extra_1 ?_
  obtain ⟨r5, hr5, hf⟩ := xbd_some hf
  refine xc_vs (rest := []) F hT hK hP (tE_mustExist l G c3 ad M r4 hr5) wl_E_34 ws_E_mustExist wn_E wc_E_mustExist ck_E_mustExist ⟨rfl, rfl⟩ ⟨by decide, by decide⟩ ⟨Nat.le_refl _, Nat.le_refl _⟩ hl.1 rfl (Nat.le_of_ble_eq_true rfl) d_E_extra_4 ?_
  refine lv_aload_n hx hb d_E_extra_7 rfl (lv_at hl 0 rfl) ?_
  refine xr_getr hx hb hT hown hK hP sX_0 rfl inE 0 (by decide) wf_E_12 rfl d_E_extra_8 ?_
  refine xr_getr hx hb hT hown hK hP sX_1 rfl inT 3 (by decide) wf_E_71 rfl d_E_extra_11 ?_
  refine lv_iload_n hx hb d_E_extra_14 rfl (lv_at hl 1 rfl) ?_
  obtain ⟨g6, hf⟩ := xgd_some hf
  refine xr_zald hx hb hK hP sX_5 g6 d_E_extra_15 ?_
  refine lv_iload_n hx hb d_E_extra_16 rfl (lv_at hl 2 rfl) ?_
  refine lv_icmp_eq (tgt := 24) hx hb d_E_extra_17 rfl (fun hc => ?_) (fun hc => ?_)
  · have hf := ite_t hc hf
    refine lv_iconst (v := 0) hx hb d_E_extra_24 rfl ?_
    exact K25 a1 a2 0 M _ _ _  hl hP hS hf
  · have hf := ite_f hc hf
    refine lv_iconst (v := 1) hx hb d_E_extra_20 rfl ?_
    refine lv_goto (tgt := 25) hx hb d_E_extra_21 rfl ?_
    exact K25 a1 a2 1 M _ _ _  hl hP hS hf
noncomputable def fT_hasRule (a1 a2 a3 : Int32) (M : Mem) : Option (Int32) := xgd (vp_in a1 3) (xgd (vp_in a3 9) (xbd (fE_has (M (6 + 1 + a1.toNatClampNeg) a3.toNatClampNeg) a2) (fun r3 => xgd (r3 = 0 ∨ r3 = 1) (some r3))))
set_option maxHeartbeats 4000000 in
set_option maxRecDepth 100000 in
theorem tT_hasRule (l : Launch) (G : va_G) (c3 : ClassId × ClassId × ClassId) (ad : Nat → Nat) (M : Mem) (a1 a2 a3 : Int32) (out : Int32) (hf : fT_hasRule a1 a2 a3 M = some out) : RMet l yT_hasRule cT_hasRule 4 (some .boolean) (rm0_ 1 21) G kl SX c3 ad M [.ref (ad 1), .int a1, .int a2, .int a3] out := by
  refine RMet.of (by decide +kernel) (Nat.le_of_ble_eq_true rfl) (fun p e s m args below meth c ls F hT hK hP hr hlk hl => ?_)
  have hx := F.1
  have hb := F.2.1
  have F : CallFix p m c cT_hasRule 4 s args gw RT := F
  have hown := F.2.2.2.1
  have hl : lv_has ls 4 [(0, .ref (ad 1)), (1, .int a1), (2, .int a2), (3, .int a3)] := hl
  unfold fT_hasRule at hf
  refine lv_aload_n hx hb d_T_hasRule_0 rfl (lv_at hl 0 rfl) ?_
  refine xr_getr hx hb hT hown hK hP sX_1 rfl inT 4 (by decide) wf_T_27 rfl d_T_hasRule_1 ?_
  refine lv_iload_n hx hb d_T_hasRule_4 rfl (lv_at hl 1 rfl) ?_
  obtain ⟨g1, hf⟩ := xgd_some hf
  refine xr_aald hx hb hK hP sX_6 g1 d_T_hasRule_5 ?_
  refine lv_iload_n hx hb d_T_hasRule_6 rfl (lv_at hl 3 rfl) ?_
  obtain ⟨g2, hf⟩ := xgd_some hf
  refine xr_iald hx hb hK hP (sX_r6 g1) g2 d_T_hasRule_7 ?_
  refine lv_iload_n hx hb d_T_hasRule_8 rfl (lv_at hl 2 rfl) ?_
  obtain ⟨r3, hr3, hf⟩ := xbd_some hf
  refine xc_rn (rest := []) F hT hK hP (tE_has l G c3 ad M (M (6 + 1 + a1.toNatClampNeg) a3.toNatClampNeg) a2 r3 hr3) wm_T_57 ws_E_has wn_E wc_E_has ck_E_has ⟨rfl, rfl⟩ ⟨by decide, by decide⟩ ⟨Nat.le_refl _, Nat.le_refl _⟩ hl.1 rfl (Nat.le_of_ble_eq_true rfl) d_T_hasRule_9 ?_
  obtain ⟨z4, hf⟩ := xgd_some hf
  exact xr_zret hx hb hr hlk z4 (Option.some.inj hf) d_T_hasRule_12
noncomputable def fT_setRule_49 (M : Mem) : Option (Mem) := some M
noncomputable def fT_setRule (a1 a2 a3 a4 : Int32) (M : Mem) : Option (Mem) := xgd (vp_in a1 3) (xgd (vp_in a1 3) (xgd (vp_in a3 9) (xbd (fE_with (M (6 + 1 + a1.toNatClampNeg) a3.toNatClampNeg) a2 a4) (fun r4 => xgd (vp_in a3 9) (xlt (up2 M (6 + 1 + a1.toNatClampNeg) a3.toNatClampNeg r4) (fun M6 => if a1 = 2 then (fT_setRule_49  M6) else (xgd (vp_in a1 3) (xgd (vp_in a1 3) (xgd (vp_in a2 9) (xbd (fE_with (M6 (6 + 1 + a1.toNatClampNeg) a2.toNatClampNeg) a3 a4) (fun r10 => xgd (vp_in a2 9) (xlt (up2 M6 (6 + 1 + a1.toNatClampNeg) a2.toNatClampNeg r10) (fun M12 => fT_setRule_49  M12)))))))))))))
set_option maxHeartbeats 4000000 in
set_option maxRecDepth 100000 in
theorem tT_setRule (l : Launch) (G : va_G) (c3 : ClassId × ClassId × ClassId) (ad : Nat → Nat) (hd : adI SX ad) (M : Mem) (a1 a2 a3 a4 : Int32) (out : Mem) (hf : fT_setRule a1 a2 a3 a4 M = some out) : WMet l yT_setRule cT_setRule 5 none (rm0_ 1 22) G kl SX c3 ad M [.ref (ad 1), .int a1, .int a2, .int a3, .int a4] none out := by
  refine WMet.of (by decide +kernel) (Nat.le_of_ble_eq_true rfl) (fun p e s m args below meth c ls F hT hK hP hr hlk hl hS => ?_)
  have hx := F.1
  have hb := F.2.1
  have F : CallFix p m c cT_setRule 5 s args gw RT := F
  have hown := F.2.2.2.1
  have hl : lv_has ls 5 [(0, .ref (ad 1)), (1, .int a1), (2, .int a2), (3, .int a3), (4, .int a4)] := hl
  revert hP hS
  suffices hall : ∀ (H : Heap) (locs : List Loc), va_P G kl (wd SX c3 ad M) H → va_S (adA SX ad) s.heap H locs → W p l e (rm0_ 1 22) s m args below meth c H locs 0 0 (MQ below (QW G kl SX c3 ad none out) args s 0 0 (adA SX ad)) (F0 m 0 ls []) from hall s.heap []
  intro H locs hP hS
  have K49 : ∀ (M : Mem) (H : Heap) (locs : List Loc) (ls : Array Slot), lv_has ls 5 [] → va_P G kl (wd SX c3 ad M) H → va_S (adA SX ad) s.heap H locs → fT_setRule_49  M = some out → W p l e (rm0_ 1 22) s m args below meth c H locs 0 0 (MQ below (QW G kl SX c3 ad none out) args s 0 0 (adA SX ad)) (F0 m 49 ls []) := by
    intro  M H locs ls  hl hP hS hf
    unfold fT_setRule_49 at hf
    exact xw_vret hx hb hr hlk hP hS (Option.some.inj hf) d_T_setRule_49
  unfold fT_setRule at hf
  refine lv_aload_n hx hb d_T_setRule_0 rfl (lv_at hl 0 rfl) ?_
  refine xr_getr hx hb hT hown hK hP sX_1 rfl inT 4 (by decide) wf_T_27 rfl d_T_setRule_1 ?_
  refine lv_iload_n hx hb d_T_setRule_4 rfl (lv_at hl 1 rfl) ?_
  obtain ⟨g1, hf⟩ := xgd_some hf
  refine xr_aald hx hb hK hP sX_6 g1 d_T_setRule_5 ?_
  refine lv_iload_n hx hb d_T_setRule_6 rfl (lv_at hl 3 rfl) ?_
  refine lv_aload_n hx hb d_T_setRule_7 rfl (lv_at hl 0 rfl) ?_
  refine xr_getr hx hb hT hown hK hP sX_1 rfl inT 4 (by decide) wf_T_27 rfl d_T_setRule_8 ?_
  refine lv_iload_n hx hb d_T_setRule_11 rfl (lv_at hl 1 rfl) ?_
  obtain ⟨g2, hf⟩ := xgd_some hf
  refine xr_aald hx hb hK hP sX_6 g2 d_T_setRule_12 ?_
  refine lv_iload_n hx hb d_T_setRule_13 rfl (lv_at hl 3 rfl) ?_
  obtain ⟨g3, hf⟩ := xgd_some hf
  refine xr_iald hx hb hK hP (sX_r6 g2) g3 d_T_setRule_14 ?_
  refine lv_iload_n hx hb d_T_setRule_15 rfl (lv_at hl 2 rfl) ?_
  refine lv_iload hx hb d_T_setRule_16 (lv_at hl 4 rfl) ?_
  obtain ⟨r4, hr4, hf⟩ := xbd_some hf
  refine xc_rn (rest := [.int a3, .ref (ad (6 + 1 + a1.toNatClampNeg))]) F hT hK hP (tE_with l G c3 ad M (M (6 + 1 + a1.toNatClampNeg) a3.toNatClampNeg) a2 a4 r4 hr4) wm_T_61 ws_E_with wn_E wc_E_with ck_E_with ⟨rfl, rfl⟩ ⟨by decide, by decide⟩ ⟨Nat.le_refl _, Nat.le_refl _⟩ hl.1 rfl (Nat.le_of_ble_eq_true rfl) d_T_setRule_18 ?_
  obtain ⟨g5, hf⟩ := xgd_some hf
  obtain ⟨M6, hM6, hf⟩ := xlt_some hf
  refine xr_iast hx hb hd hK hP hS (sX_r6 g1) g5 d_T_setRule_21 (fun H locs hP hS => ?_)
  rw [hM6] at hP
  refine lv_iload_n hx hb d_T_setRule_22 rfl (lv_at hl 1 rfl) ?_
  refine lv_iconst (v := 2) hx hb d_T_setRule_23 rfl ?_
  refine lv_icmp_eq (tgt := 49) hx hb d_T_setRule_24 rfl (fun hc => ?_) (fun hc => ?_)
  · have hf := ite_t hc hf
    exact K49  M6 _ _ _  (lv_sub hl [] rfl) hP hS hf
  · have hf := ite_f hc hf
    refine lv_aload_n hx hb d_T_setRule_27 rfl (lv_at hl 0 rfl) ?_
    refine xr_getr hx hb hT hown hK hP sX_1 rfl inT 4 (by decide) wf_T_27 rfl d_T_setRule_28 ?_
    refine lv_iload_n hx hb d_T_setRule_31 rfl (lv_at hl 1 rfl) ?_
    obtain ⟨g7, hf⟩ := xgd_some hf
    refine xr_aald hx hb hK hP sX_6 g7 d_T_setRule_32 ?_
    refine lv_iload_n hx hb d_T_setRule_33 rfl (lv_at hl 2 rfl) ?_
    refine lv_aload_n hx hb d_T_setRule_34 rfl (lv_at hl 0 rfl) ?_
    refine xr_getr hx hb hT hown hK hP sX_1 rfl inT 4 (by decide) wf_T_27 rfl d_T_setRule_35 ?_
    refine lv_iload_n hx hb d_T_setRule_38 rfl (lv_at hl 1 rfl) ?_
    obtain ⟨g8, hf⟩ := xgd_some hf
    refine xr_aald hx hb hK hP sX_6 g8 d_T_setRule_39 ?_
    refine lv_iload_n hx hb d_T_setRule_40 rfl (lv_at hl 2 rfl) ?_
    obtain ⟨g9, hf⟩ := xgd_some hf
    refine xr_iald hx hb hK hP (sX_r6 g8) g9 d_T_setRule_41 ?_
    refine lv_iload_n hx hb d_T_setRule_42 rfl (lv_at hl 3 rfl) ?_
    refine lv_iload hx hb d_T_setRule_43 (lv_at hl 4 rfl) ?_
    obtain ⟨r10, hr10, hf⟩ := xbd_some hf
    refine xc_rn (rest := [.int a2, .ref (ad (6 + 1 + a1.toNatClampNeg))]) F hT hK hP (tE_with l G c3 ad M6 (M6 (6 + 1 + a1.toNatClampNeg) a2.toNatClampNeg) a3 a4 r10 hr10) wm_T_61 ws_E_with wn_E wc_E_with ck_E_with ⟨rfl, rfl⟩ ⟨by decide, by decide⟩ ⟨Nat.le_refl _, Nat.le_refl _⟩ hl.1 rfl (Nat.le_of_ble_eq_true rfl) d_T_setRule_45 ?_
    obtain ⟨g11, hf⟩ := xgd_some hf
    obtain ⟨M12, hM12, hf⟩ := xlt_some hf
    refine xr_iast hx hb hd hK hP hS (sX_r6 g7) g11 d_T_setRule_48 (fun H locs hP hS => ?_)
    rw [hM12] at hP
    exact K49  M12 _ _ _  (lv_sub hl [] rfl) hP hS hf
noncomputable def fE_rule_40 (v1 v2 v3 v4 s40_0 : Int32) (M : Mem) : Option (Int32 × Mem) := xbd (fE_mustBeAllowed s40_0) (fun _ => xbd (fT_hasRule v1 v2 v3 M) (fun r2 => if r2 = v4 then (xgd ((0 : Int32) = 0 ∨ (0 : Int32) = 1) (some (0, M))) else (xbd (fE_dropPlan  M) (fun r3 => xbd (fT_setRule v1 v2 v3 v4 r3) (fun r4 => xgd ((1 : Int32) = 0 ∨ (1 : Int32) = 1) (some (1, r4)))))))
noncomputable def fE_rule_27 (v1 v2 v3 v4 s27_0 : Int32) (M : Mem) : Option (Int32 × Mem) := xbd (fE_mustExist s27_0) (fun _ => if v2 = v3 then (fE_rule_40 v1 v2 v3 v4 0 M) else (fE_rule_40 v1 v2 v3 v4 1 M))
noncomputable def fE_rule_26 (v1 v2 v3 v4 : Int32) (M : Mem) : Option (Int32 × Mem) := fE_rule_27 v1 v2 v3 v4 0 M
noncomputable def fE_rule (a1 a2 a3 a4 : Int32) (M : Mem) : Option (Int32 × Mem) := xbd (fE_isBelow a1 3) (fun r8 => if r8 = 0 then (fE_rule_26 a1 a2 a3 a4 M) else (xbd (fE_isPaper a2) (fun r9 => if r9 = 0 then (fE_rule_26 a1 a2 a3 a4 M) else (xbd (fE_isPaper a3) (fun r10 => if r10 = 0 then (fE_rule_26 a1 a2 a3 a4 M) else (fE_rule_27 a1 a2 a3 a4 1 M))))))
set_option maxHeartbeats 4000000 in
set_option maxRecDepth 100000 in
theorem tE_rule (l : Launch) (G : va_G) (c3 : ClassId × ClassId × ClassId) (ad : Nat → Nat) (hd : adI SX ad) (M : Mem) (a1 a2 a3 a4 : Int32) (o1 : Int32) (o2 : Mem) (hf : fE_rule a1 a2 a3 a4 M = some (o1, o2)) : WMet l yE_rule cE_rule 5 (some .boolean) (rm0_ 3 64) G kl SX c3 ad M [.ref (ad 0), .int a1, .int a2, .int a3, .int a4] (some (.int o1)) o2 := by
  generalize hout : (o1, o2) = out at hf
  obtain rfl : out.1 = o1 := by rw [← hout]
  obtain rfl : out.2 = o2 := by rw [← hout]
  clear hout
  refine WMet.of (by decide +kernel) (Nat.le_of_ble_eq_true rfl) (fun p e s m args below meth c ls F hT hK hP hr hlk hl hS => ?_)
  have hx := F.1
  have hb := F.2.1
  have F : CallFix p m c cE_rule 5 s args gw RE := F
  have hown := F.2.2.2.1
  have hl : lv_has ls 5 [(0, .ref (ad 0)), (1, .int a1), (2, .int a2), (3, .int a3), (4, .int a4)] := hl
  revert hP hS
  suffices hall : ∀ (H : Heap) (locs : List Loc), va_P G kl (wd SX c3 ad M) H → va_S (adA SX ad) s.heap H locs → W p l e (rm0_ 3 64) s m args below meth c H locs 0 0 (MQ below (QW G kl SX c3 ad (some (.int out.1)) out.2) args s 0 0 (adA SX ad)) (F0 m 0 ls []) from hall s.heap []
  intro H locs hP hS
  have K40 : ∀ (v1 v2 v3 v4 s40_0 : Int32) (M : Mem) (H : Heap) (locs : List Loc) (ls : Array Slot), lv_has ls 5 [(0, .ref (ad 0)), (1, .int v1), (2, .int v2), (3, .int v3), (4, .int v4)] → va_P G kl (wd SX c3 ad M) H → va_S (adA SX ad) s.heap H locs → fE_rule_40 v1 v2 v3 v4 s40_0 M = some out → W p l e (rm0_ 3 64) s m args below meth c H locs 0 0 (MQ below (QW G kl SX c3 ad (some (.int out.1)) out.2) args s 0 0 (adA SX ad)) (F0 m 40 ls [.int s40_0]) := by
    intro v1 v2 v3 v4 s40_0 M H locs ls  hl hP hS hf
    unfold fE_rule_40 at hf
    obtain ⟨r1, hr1, hf⟩ := xbd_some hf
    refine xc_vs (rest := []) F hT hK hP (tE_mustBeAllowed l G c3 ad M s40_0 hr1) wl_E_42 ws_E_mustBeAllowed wn_E wc_E_mustBeAllowed ck_E_mustBeAllowed ⟨rfl, rfl⟩ ⟨by decide, by decide⟩ ⟨Nat.le_refl _, Nat.le_refl _⟩ hl.1 rfl (Nat.le_of_ble_eq_true rfl) d_E_rule_40 ?_
    refine lv_aload_n hx hb d_E_rule_43 rfl (lv_at hl 0 rfl) ?_
    refine xr_getr hx hb hT hown hK hP sX_0 rfl inE 0 (by decide) wf_E_12 rfl d_E_rule_44 ?_
    refine lv_iload_n hx hb d_E_rule_47 rfl (lv_at hl 1 rfl) ?_
    refine lv_iload_n hx hb d_E_rule_48 rfl (lv_at hl 2 rfl) ?_
    refine lv_iload_n hx hb d_E_rule_49 rfl (lv_at hl 3 rfl) ?_
    obtain ⟨r2, hr2, hf⟩ := xbd_some hf
    refine xc_rv (rest := []) F hT hK hP (tT_hasRule l G c3 ad M v1 v2 v3 r2 hr2) sX_1 rfl wl_E_78 wi_T_hasRule we_T_hasRule wn_T wc_T_hasRule ck_T_hasRule ⟨rfl, rfl⟩ ⟨by decide, by decide⟩ ⟨Nat.le_refl _, Nat.le_refl _⟩ hl.1 rfl (Nat.le_of_ble_eq_true rfl) d_E_rule_50 ?_
    refine lv_iload hx hb d_E_rule_53 (lv_at hl 4 rfl) ?_
    refine lv_icmp_ne (tgt := 60) hx hb d_E_rule_55 rfl (fun hc => ?_) (fun hc => ?_)
    · have hf := ite_f hc hf
      refine lv_aload_n hx hb d_E_rule_60 rfl (lv_at hl 0 rfl) ?_
      obtain ⟨r3, hr3, hf⟩ := xbd_some hf
      refine xc_wv (rest := []) F hT hK hP hS (fun _ h => h) (tE_dropPlan l G c3 ad hd M  r3 hr3) sX_0 rfl wl_E_45 wi_E_dropPlan we_E_dropPlan wn_E wc_E_dropPlan ck_E_dropPlan ⟨rfl, rfl⟩ ⟨by decide, by decide⟩ ⟨Nat.le_refl _, Nat.le_refl _⟩ hl.1 rfl (Nat.le_of_ble_eq_true rfl) d_E_rule_61 (fun H locs hP hS _ => ?_)
      refine lv_aload_n hx hb d_E_rule_64 rfl (lv_at hl 0 rfl) ?_
      refine xr_getr hx hb hT hown hK hP sX_0 rfl inE 0 (by decide) wf_E_12 rfl d_E_rule_65 ?_
      refine lv_iload_n hx hb d_E_rule_68 rfl (lv_at hl 1 rfl) ?_
      refine lv_iload_n hx hb d_E_rule_69 rfl (lv_at hl 2 rfl) ?_
      refine lv_iload_n hx hb d_E_rule_70 rfl (lv_at hl 3 rfl) ?_
      refine lv_iload hx hb d_E_rule_71 (lv_at hl 4 rfl) ?_
      obtain ⟨r4, hr4, hf⟩ := xbd_some hf
      refine xc_wv (rest := []) F hT hK hP hS (fun _ h => h) (tT_setRule l G c3 ad hd r3 v1 v2 v3 v4 r4 hr4) sX_1 rfl wl_E_82 wi_T_setRule we_T_setRule wn_T wc_T_setRule ck_T_setRule ⟨rfl, rfl⟩ ⟨by decide, by decide⟩ ⟨Nat.le_refl _, Nat.le_refl _⟩ hl.1 rfl (Nat.le_of_ble_eq_true rfl) d_E_rule_73 (fun H locs hP hS _ => ?_)
      refine lv_iconst (v := 1) hx hb d_E_rule_76 rfl ?_
      obtain ⟨z5, hf⟩ := xgd_some hf
      exact xw_zret hx hb hr hlk hP hS z5 (Option.some.inj hf) d_E_rule_77
    · have hf := ite_t hc hf
      refine lv_iconst (v := 0) hx hb d_E_rule_58 rfl ?_
      obtain ⟨z6, hf⟩ := xgd_some hf
      exact xw_zret hx hb hr hlk hP hS z6 (Option.some.inj hf) d_E_rule_59
  have K27 : ∀ (v1 v2 v3 v4 s27_0 : Int32) (M : Mem) (H : Heap) (locs : List Loc) (ls : Array Slot), lv_has ls 5 [(0, .ref (ad 0)), (1, .int v1), (2, .int v2), (3, .int v3), (4, .int v4)] → va_P G kl (wd SX c3 ad M) H → va_S (adA SX ad) s.heap H locs → fE_rule_27 v1 v2 v3 v4 s27_0 M = some out → W p l e (rm0_ 3 64) s m args below meth c H locs 0 0 (MQ below (QW G kl SX c3 ad (some (.int out.1)) out.2) args s 0 0 (adA SX ad)) (F0 m 27 ls [.int s27_0]) := by
    intro v1 v2 v3 v4 s27_0 M H locs ls  hl hP hS hf
    unfold fE_rule_27 at hf
    obtain ⟨r7, hr7, hf⟩ := xbd_some hf
    refine xc_vs (rest := []) F hT hK hP (tE_mustExist l G c3 ad M s27_0 hr7) wl_E_34 ws_E_mustExist wn_E wc_E_mustExist ck_E_mustExist ⟨rfl, rfl⟩ ⟨by decide, by decide⟩ ⟨Nat.le_refl _, Nat.le_refl _⟩ hl.1 rfl (Nat.le_of_ble_eq_true rfl) d_E_rule_27 ?_
    refine lv_iload_n hx hb d_E_rule_30 rfl (lv_at hl 2 rfl) ?_
    refine lv_iload_n hx hb d_E_rule_31 rfl (lv_at hl 3 rfl) ?_
    refine lv_icmp_eq (tgt := 39) hx hb d_E_rule_32 rfl (fun hc => ?_) (fun hc => ?_)
    · have hf := ite_t hc hf
      refine lv_iconst (v := 0) hx hb d_E_rule_39 rfl ?_
      exact K40 v1 v2 v3 v4 0 M _ _ _  hl hP hS hf
    · have hf := ite_f hc hf
      refine lv_iconst (v := 1) hx hb d_E_rule_35 rfl ?_
      refine lv_goto (tgt := 40) hx hb d_E_rule_36 rfl ?_
      exact K40 v1 v2 v3 v4 1 M _ _ _  hl hP hS hf
  have K26 : ∀ (v1 v2 v3 v4 : Int32) (M : Mem) (H : Heap) (locs : List Loc) (ls : Array Slot), lv_has ls 5 [(0, .ref (ad 0)), (1, .int v1), (2, .int v2), (3, .int v3), (4, .int v4)] → va_P G kl (wd SX c3 ad M) H → va_S (adA SX ad) s.heap H locs → fE_rule_26 v1 v2 v3 v4 M = some out → W p l e (rm0_ 3 64) s m args below meth c H locs 0 0 (MQ below (QW G kl SX c3 ad (some (.int out.1)) out.2) args s 0 0 (adA SX ad)) (F0 m 26 ls []) := by
    intro v1 v2 v3 v4 M H locs ls  hl hP hS hf
    unfold fE_rule_26 at hf
    refine lv_iconst (v := 0) hx hb d_E_rule_26 rfl ?_
    exact K27 v1 v2 v3 v4 0 M _ _ _  hl hP hS hf
  unfold fE_rule at hf
  refine lv_iload_n hx hb d_E_rule_0 rfl (lv_at hl 1 rfl) ?_
  refine lv_iconst (v := 3) hx hb d_E_rule_1 rfl ?_
  obtain ⟨r8, hr8, hf⟩ := xbd_some hf
  refine xc_rs (rest := []) F hT hK hP (tE_isBelow l G c3 ad M a1 3 r8 hr8) wl_E_75 ws_E_isBelow wn_E wc_E_isBelow ck_E_isBelow ⟨rfl, rfl⟩ ⟨by decide, by decide⟩ ⟨Nat.le_refl _, Nat.le_refl _⟩ hl.1 rfl (Nat.le_of_ble_eq_true rfl) d_E_rule_2 ?_
  refine lv_if_eq (tgt := 26) hx hb d_E_rule_5 rfl (fun hc => ?_) (fun hc => ?_)
  · have hf := ite_t hc hf
    exact K26 a1 a2 a3 a4 M _ _ _  hl hP hS hf
  · have hf := ite_f hc hf
    refine lv_iload_n hx hb d_E_rule_8 rfl (lv_at hl 2 rfl) ?_
    obtain ⟨r9, hr9, hf⟩ := xbd_some hf
    refine xc_rs (rest := []) F hT hK hP (tE_isPaper l G c3 ad M a2 r9 hr9) wl_E_30 ws_E_isPaper wn_E wc_E_isPaper ck_E_isPaper ⟨rfl, rfl⟩ ⟨by decide, by decide⟩ ⟨Nat.le_refl _, Nat.le_refl _⟩ hl.1 rfl (Nat.le_of_ble_eq_true rfl) d_E_rule_9 ?_
    refine lv_if_eq (tgt := 26) hx hb d_E_rule_12 rfl (fun hc => ?_) (fun hc => ?_)
    · have hf := ite_t hc hf
      exact K26 a1 a2 a3 a4 M _ _ _  hl hP hS hf
    · have hf := ite_f hc hf
      refine lv_iload_n hx hb d_E_rule_15 rfl (lv_at hl 3 rfl) ?_
      obtain ⟨r10, hr10, hf⟩ := xbd_some hf
      refine xc_rs (rest := []) F hT hK hP (tE_isPaper l G c3 ad M a3 r10 hr10) wl_E_30 ws_E_isPaper wn_E wc_E_isPaper ck_E_isPaper ⟨rfl, rfl⟩ ⟨by decide, by decide⟩ ⟨Nat.le_refl _, Nat.le_refl _⟩ hl.1 rfl (Nat.le_of_ble_eq_true rfl) d_E_rule_16 ?_
      refine lv_if_eq (tgt := 26) hx hb d_E_rule_19 rfl (fun hc => ?_) (fun hc => ?_)
      · have hf := ite_t hc hf
        exact K26 a1 a2 a3 a4 M _ _ _  hl hP hS hf
      · have hf := ite_f hc hf
        refine lv_iconst (v := 1) hx hb d_E_rule_22 rfl ?_
        refine lv_goto (tgt := 27) hx hb d_E_rule_23 rfl ?_
        exact K27 a1 a2 a3 a4 1 M _ _ _  hl hP hS hf
noncomputable def fE_fix_24 (v1 v2 s24_0 : Int32) (M : Mem) : Option (Int32 × Mem) := xbd (fE_mustExist s24_0) (fun _ => xbd (fE_dropPlan  M) (fun r2 => xgd (vp_in v1 9) (xlt ((r2 10 v1.toNatClampNeg)) (fun x4 => xgd (vp_in v1 9) (xlt (up2 r2 10 v1.toNatClampNeg v2) (fun M6 => some (x4, M6)))))))
noncomputable def fE_fix_23 (v1 v2 : Int32) (M : Mem) : Option (Int32 × Mem) := fE_fix_24 v1 v2 0 M
noncomputable def fE_fix_19 (v1 v2 : Int32) (M : Mem) : Option (Int32 × Mem) := fE_fix_24 v1 v2 1 M
noncomputable def fE_fix (a1 a2 : Int32) (M : Mem) : Option (Int32 × Mem) := xbd (fE_isPaper a1) (fun r7 => if r7 = 0 then (fE_fix_23 a1 a2 M) else (if a2 = (-1) then (fE_fix_19 a1 a2 M) else (xbd (fE_isSession a2) (fun r8 => if r8 = 0 then (fE_fix_23 a1 a2 M) else (fE_fix_19 a1 a2 M)))))
set_option maxHeartbeats 4000000 in
set_option maxRecDepth 100000 in
theorem tE_fix (l : Launch) (G : va_G) (c3 : ClassId × ClassId × ClassId) (ad : Nat → Nat) (hd : adI SX ad) (M : Mem) (a1 a2 : Int32) (o1 : Int32) (o2 : Mem) (hf : fE_fix a1 a2 M = some (o1, o2)) : WMet l yE_fix cE_fix 4 (some .int) (rm0_ 3 64) G kl SX c3 ad M [.ref (ad 0), .int a1, .int a2] (some (.int o1)) o2 := by
  generalize hout : (o1, o2) = out at hf
  obtain rfl : out.1 = o1 := by rw [← hout]
  obtain rfl : out.2 = o2 := by rw [← hout]
  clear hout
  refine WMet.of (by decide +kernel) (Nat.le_of_ble_eq_true rfl) (fun p e s m args below meth c ls F hT hK hP hr hlk hl hS => ?_)
  have hx := F.1
  have hb := F.2.1
  have F : CallFix p m c cE_fix 4 s args gw RE := F
  have hown := F.2.2.2.1
  have hl : lv_has ls 4 [(0, .ref (ad 0)), (1, .int a1), (2, .int a2)] := hl
  revert hP hS
  suffices hall : ∀ (H : Heap) (locs : List Loc), va_P G kl (wd SX c3 ad M) H → va_S (adA SX ad) s.heap H locs → W p l e (rm0_ 3 64) s m args below meth c H locs 0 0 (MQ below (QW G kl SX c3 ad (some (.int out.1)) out.2) args s 0 0 (adA SX ad)) (F0 m 0 ls []) from hall s.heap []
  intro H locs hP hS
  have K24 : ∀ (v1 v2 s24_0 : Int32) (M : Mem) (H : Heap) (locs : List Loc) (ls : Array Slot), lv_has ls 4 [(0, .ref (ad 0)), (1, .int v1), (2, .int v2)] → va_P G kl (wd SX c3 ad M) H → va_S (adA SX ad) s.heap H locs → fE_fix_24 v1 v2 s24_0 M = some out → W p l e (rm0_ 3 64) s m args below meth c H locs 0 0 (MQ below (QW G kl SX c3 ad (some (.int out.1)) out.2) args s 0 0 (adA SX ad)) (F0 m 24 ls [.int s24_0]) := by
    intro v1 v2 s24_0 M H locs ls  hl hP hS hf
    unfold fE_fix_24 at hf
    obtain ⟨r1, hr1, hf⟩ := xbd_some hf
    refine xc_vs (rest := []) F hT hK hP (tE_mustExist l G c3 ad M s24_0 hr1) wl_E_34 ws_E_mustExist wn_E wc_E_mustExist ck_E_mustExist ⟨rfl, rfl⟩ ⟨by decide, by decide⟩ ⟨Nat.le_refl _, Nat.le_refl _⟩ hl.1 rfl (Nat.le_of_ble_eq_true rfl) d_E_fix_24 ?_
    refine lv_aload_n hx hb d_E_fix_27 rfl (lv_at hl 0 rfl) ?_
    obtain ⟨r2, hr2, hf⟩ := xbd_some hf
    refine xc_wv (rest := []) F hT hK hP hS (fun _ h => h) (tE_dropPlan l G c3 ad hd M  r2 hr2) sX_0 rfl wl_E_45 wi_E_dropPlan we_E_dropPlan wn_E wc_E_dropPlan ck_E_dropPlan ⟨rfl, rfl⟩ ⟨by decide, by decide⟩ ⟨Nat.le_refl _, Nat.le_refl _⟩ hl.1 rfl (Nat.le_of_ble_eq_true rfl) d_E_fix_28 (fun H locs hP hS _ => ?_)
    refine lv_aload_n hx hb d_E_fix_31 rfl (lv_at hl 0 rfl) ?_
    refine xr_getr hx hb hT hown hK hP sX_0 rfl inE 0 (by decide) wf_E_12 rfl d_E_fix_32 ?_
    refine xr_getr hx hb hT hown hK hP sX_1 rfl inT 5 (by decide) wf_E_86 rfl d_E_fix_35 ?_
    refine lv_iload_n hx hb d_E_fix_38 rfl (lv_at hl 1 rfl) ?_
    obtain ⟨g3, hf⟩ := xgd_some hf
    refine xr_iald hx hb hK hP sX_10 g3 d_E_fix_39 ?_
    obtain ⟨x4, hx4, hf⟩ := xlt_some hf
    refine xr_name hx4 ?_
    refine lv_istore_n (lv' := [(3, .int x4), (0, .ref (ad 0)), (1, .int v1), (2, .int v2)]) hx hb d_E_fix_40 rfl hl (by decide) rfl (fun ls hl => ?_)
    refine lv_aload_n hx hb d_E_fix_41 rfl (lv_at hl 1 rfl) ?_
    refine xr_getr hx hb hT hown hK hP sX_0 rfl inE 0 (by decide) wf_E_12 rfl d_E_fix_42 ?_
    refine xr_getr hx hb hT hown hK hP sX_1 rfl inT 5 (by decide) wf_E_86 rfl d_E_fix_45 ?_
    refine lv_iload_n hx hb d_E_fix_48 rfl (lv_at hl 2 rfl) ?_
    refine lv_iload_n hx hb d_E_fix_49 rfl (lv_at hl 3 rfl) ?_
    obtain ⟨g5, hf⟩ := xgd_some hf
    obtain ⟨M6, hM6, hf⟩ := xlt_some hf
    refine xr_iast hx hb hd hK hP hS sX_10 g5 d_E_fix_50 (fun H locs hP hS => ?_)
    rw [hM6] at hP
    refine lv_iload_n hx hb d_E_fix_51 rfl (lv_at hl 0 rfl) ?_
    exact xw_iret hx hb hr hlk hP hS (Option.some.inj hf) d_E_fix_52
  have K23 : ∀ (v1 v2 : Int32) (M : Mem) (H : Heap) (locs : List Loc) (ls : Array Slot), lv_has ls 4 [(0, .ref (ad 0)), (1, .int v1), (2, .int v2)] → va_P G kl (wd SX c3 ad M) H → va_S (adA SX ad) s.heap H locs → fE_fix_23 v1 v2 M = some out → W p l e (rm0_ 3 64) s m args below meth c H locs 0 0 (MQ below (QW G kl SX c3 ad (some (.int out.1)) out.2) args s 0 0 (adA SX ad)) (F0 m 23 ls []) := by
    intro v1 v2 M H locs ls  hl hP hS hf
    unfold fE_fix_23 at hf
    refine lv_iconst (v := 0) hx hb d_E_fix_23 rfl ?_
    exact K24 v1 v2 0 M _ _ _  hl hP hS hf
  have K19 : ∀ (v1 v2 : Int32) (M : Mem) (H : Heap) (locs : List Loc) (ls : Array Slot), lv_has ls 4 [(0, .ref (ad 0)), (1, .int v1), (2, .int v2)] → va_P G kl (wd SX c3 ad M) H → va_S (adA SX ad) s.heap H locs → fE_fix_19 v1 v2 M = some out → W p l e (rm0_ 3 64) s m args below meth c H locs 0 0 (MQ below (QW G kl SX c3 ad (some (.int out.1)) out.2) args s 0 0 (adA SX ad)) (F0 m 19 ls []) := by
    intro v1 v2 M H locs ls  hl hP hS hf
    unfold fE_fix_19 at hf
    refine lv_iconst (v := 1) hx hb d_E_fix_19 rfl ?_
    refine lv_goto (tgt := 24) hx hb d_E_fix_20 rfl ?_
    exact K24 v1 v2 1 M _ _ _  hl hP hS hf
  unfold fE_fix at hf
  refine lv_iload_n hx hb d_E_fix_0 rfl (lv_at hl 1 rfl) ?_
  obtain ⟨r7, hr7, hf⟩ := xbd_some hf
  refine xc_rs (rest := []) F hT hK hP (tE_isPaper l G c3 ad M a1 r7 hr7) wl_E_30 ws_E_isPaper wn_E wc_E_isPaper ck_E_isPaper ⟨rfl, rfl⟩ ⟨by decide, by decide⟩ ⟨Nat.le_refl _, Nat.le_refl _⟩ hl.1 rfl (Nat.le_of_ble_eq_true rfl) d_E_fix_1 ?_
  refine lv_if_eq (tgt := 23) hx hb d_E_fix_4 rfl (fun hc => ?_) (fun hc => ?_)
  · have hf := ite_t hc hf
    exact K23 a1 a2 M _ _ _  hl hP hS hf
  · have hf := ite_f hc hf
    refine lv_iload_n hx hb d_E_fix_7 rfl (lv_at hl 2 rfl) ?_
    refine lv_iconst (v := (-1)) hx hb d_E_fix_8 rfl ?_
    refine lv_icmp_eq (tgt := 19) hx hb d_E_fix_9 rfl (fun hc => ?_) (fun hc => ?_)
    · have hf := ite_t hc hf
      exact K19 a1 a2 M _ _ _  hl hP hS hf
    · have hf := ite_f hc hf
      refine lv_iload_n hx hb d_E_fix_12 rfl (lv_at hl 2 rfl) ?_
      obtain ⟨r8, hr8, hf⟩ := xbd_some hf
      refine xc_rs (rest := []) F hT hK hP (tE_isSession l G c3 ad M a2 r8 hr8) wl_E_52 ws_E_isSession wn_E wc_E_isSession ck_E_isSession ⟨rfl, rfl⟩ ⟨by decide, by decide⟩ ⟨Nat.le_refl _, Nat.le_refl _⟩ hl.1 rfl (Nat.le_of_ble_eq_true rfl) d_E_fix_13 ?_
      refine lv_if_eq (tgt := 23) hx hb d_E_fix_16 rfl (fun hc => ?_) (fun hc => ?_)
      · have hf := ite_t hc hf
        exact K23 a1 a2 M _ _ _  hl hP hS hf
      · have hf := ite_f hc hf
        exact K19 a1 a2 M _ _ _  hl hP hS hf
noncomputable def fT_enrolledForBoth_49 (v3 : Int32) (M : Mem) : Option (Int32) := some v3
noncomputable def fT_enrolledForBoth_43 (v1 v2 v3 v4 : Int32) (M : Mem) : Option ((Int32 × Int32) ⊕ (Int32 × Int32)) := xlt (v4 + 1) (fun x1 => some (.inr (v3, x1)))
noncomputable def gT_enrolledForBoth_5 (v1 v2 : Int32) (M : Mem) (v3 v4 : Int32) : Option ((Int32 × Int32) ⊕ (Int32 × Int32)) := if 40 ≤ v4 then (some (.inl (v3, v4))) else (xgd (vp_in v4 40) (xbd (fE_has (M 4 v4.toNatClampNeg) v1) (fun r3 => if r3 = 0 then (fT_enrolledForBoth_43 v1 v2 v3 v4 M) else (xgd (vp_in v4 40) (xbd (fE_has (M 4 v4.toNatClampNeg) v2) (fun r5 => if r5 = 0 then (fT_enrolledForBoth_43 v1 v2 v3 v4 M) else (xlt (v3 + 1) (fun x6 => fT_enrolledForBoth_43 v1 v2 x6 v4 M))))))))
noncomputable def bT_enrolledForBoth_5 (v1 v2 : Int32) (M : Mem) : Int32 × Int32 → Option ((Int32 × Int32) ⊕ (Int32 × Int32)) := fun st => gT_enrolledForBoth_5 v1 v2 M st.1 st.2
noncomputable def fT_enrolledForBoth (a1 a2 : Int32) (M : Mem) : Option (Int32) := xbd (xlp (bT_enrolledForBoth_5 a1 a2 M) (0, 0)) (fun e5 => fT_enrolledForBoth_49 e5.1 M)
set_option maxHeartbeats 4000000 in
set_option maxRecDepth 100000 in
theorem tT_enrolledForBoth (l : Launch) (G : va_G) (c3 : ClassId × ClassId × ClassId) (ad : Nat → Nat) (M : Mem) (a1 a2 : Int32) (out : Int32) (hf : fT_enrolledForBoth a1 a2 M = some out) : RMet l yT_enrolledForBoth cT_enrolledForBoth 5 (some .int) (rm0_ 1 21) G kl SX c3 ad M [.ref (ad 1), .int a1, .int a2] out := by
  refine RMet.of (by decide +kernel) (Nat.le_of_ble_eq_true rfl) (fun p e s m args below meth c ls F hT hK hP hr hlk hl => ?_)
  have hx := F.1
  have hb := F.2.1
  have F : CallFix p m c cT_enrolledForBoth 5 s args gw RT := F
  have hown := F.2.2.2.1
  have hl : lv_has ls 5 [(0, .ref (ad 1)), (1, .int a1), (2, .int a2)] := hl
  have K49 : ∀ (v3 : Int32) (ls : Array Slot), lv_has ls 5 [(3, .int v3)] → fT_enrolledForBoth_49 v3 M = some out → W p l e (rm0_ 1 21) s m args below meth c s.heap [] 0 0 (MQ below (QcRead out) args s 0 0 (fun _ => False)) (F0 m 49 ls []) := by
    intro v3 ls  hl hf
    unfold fT_enrolledForBoth_49 at hf
    refine lv_iload_n hx hb d_T_enrolledForBoth_49 rfl (lv_at hl 0 rfl) ?_
    exact xr_iret hx hb hr hlk (Option.some.inj hf) d_T_enrolledForBoth_50
  unfold fT_enrolledForBoth at hf
  refine lv_iconst (v := 0) hx hb d_T_enrolledForBoth_0 rfl ?_
  refine lv_istore_n (lv' := [(3, .int 0), (0, .ref (ad 1)), (1, .int a1), (2, .int a2)]) hx hb d_T_enrolledForBoth_1 rfl hl (by decide) rfl (fun ls hl => ?_)
  refine lv_iconst (v := 0) hx hb d_T_enrolledForBoth_2 rfl ?_
  refine lv_istore (lv' := [(4, .int 0), (3, .int 0), (0, .ref (ad 1)), (1, .int a1), (2, .int a2)]) hx hb d_T_enrolledForBoth_3 hl (by decide) rfl (fun ls hl => ?_)
  obtain ⟨e5, he5, hk5⟩ := xbd_some hf
  obtain ⟨n5, hq5⟩ := xlp_n he5
  have LH5 : ∀ (n : Nat) (v3 v4 : Int32) (ls : Array Slot), lv_has ls 5 [(0, .ref (ad 1)), (1, .int a1), (2, .int a2), (3, .int v3), (4, .int v4)] → xwh (bT_enrolledForBoth_5 a1 a2 M) n (v3, v4) = some e5 → W p l e (rm0_ 1 21) s m args below meth c s.heap [] 0 0 (MQ below (QcRead out) args s 0 0 (fun _ => False)) (F0 m 5 ls []) := by
    intro n
    induction n with
    | zero =>
      intro v3 v4 ls hl hn
      exact xwh_0 hn
    | succ n ih5 =>
      intro v3 v4 ls hl hn5
      obtain ⟨o5, hf, hn5⟩ := xwh_s hn5
      have hf : gT_enrolledForBoth_5 a1 a2 M v3 v4 = some o5 := hf
      have K43 : ∀ (v3 v4 : Int32) (ls : Array Slot), lv_has ls 5 [(0, .ref (ad 1)), (1, .int a1), (2, .int a2), (3, .int v3), (4, .int v4)] → fT_enrolledForBoth_43 a1 a2 v3 v4 M = some o5 → W p l e (rm0_ 1 21) s m args below meth c s.heap [] 0 0 (MQ below (QcRead out) args s 0 0 (fun _ => False)) (F0 m 43 ls []) := by
        intro v3 v4 ls  hl hf
        unfold fT_enrolledForBoth_43 at hf
        obtain ⟨x1, hx1, hf⟩ := xlt_some hf
        refine lv_iinc (k := 4) (lv' := [(4, .int x1), (0, .ref (ad 1)), (1, .int a1), (2, .int a2), (3, .int v3)]) hx hb d_T_enrolledForBoth_43 hl rfl hx1 (by decide) rfl (fun ls hl => ?_)
        refine lv_goto (tgt := 5) hx hb d_T_enrolledForBoth_46 rfl ?_
        exact ih5 v3 x1 _ (lv_sub hl [1, 2, 3, 4, 0] rfl) (xw_again hf hn5)
      unfold gT_enrolledForBoth_5 at hf
      refine lv_iload hx hb d_T_enrolledForBoth_5 (lv_at hl 4 rfl) ?_
      refine lv_bipush (v := 40) hx hb d_T_enrolledForBoth_7 rfl ?_
      refine lv_icmp_ge (tgt := 49) hx hb d_T_enrolledForBoth_9 rfl (fun hc => ?_) (fun hc => ?_)
      · have hf := ite_t hc hf
        have he := xw_exit hf hn5
        subst he
        have hf := hk5
        exact K49 v3 _  (lv_sub hl [3] rfl) hf
      · have hf := ite_f hc hf
        refine lv_aload_n hx hb d_T_enrolledForBoth_12 rfl (lv_at hl 0 rfl) ?_
        refine xr_getr hx hb hT hown hK hP sX_1 rfl inT 2 (by decide) wf_T_18 rfl d_T_enrolledForBoth_13 ?_
        refine lv_iload hx hb d_T_enrolledForBoth_16 (lv_at hl 4 rfl) ?_
        obtain ⟨g2, hf⟩ := xgd_some hf
        refine xr_iald hx hb hK hP sX_4 g2 d_T_enrolledForBoth_18 ?_
        refine lv_iload_n hx hb d_T_enrolledForBoth_19 rfl (lv_at hl 1 rfl) ?_
        obtain ⟨r3, hr3, hf⟩ := xbd_some hf
        refine xc_rn (rest := []) F hT hK hP (tE_has l G c3 ad M (M 4 v4.toNatClampNeg) a1 r3 hr3) wm_T_57 ws_E_has wn_E wc_E_has ck_E_has ⟨rfl, rfl⟩ ⟨by decide, by decide⟩ ⟨Nat.le_refl _, Nat.le_refl _⟩ hl.1 rfl (Nat.le_of_ble_eq_true rfl) d_T_enrolledForBoth_20 ?_
        refine lv_if_eq (tgt := 43) hx hb d_T_enrolledForBoth_23 rfl (fun hc => ?_) (fun hc => ?_)
        · have hf := ite_t hc hf
          exact K43 v3 v4 _  hl hf
        · have hf := ite_f hc hf
          refine lv_aload_n hx hb d_T_enrolledForBoth_26 rfl (lv_at hl 0 rfl) ?_
          refine xr_getr hx hb hT hown hK hP sX_1 rfl inT 2 (by decide) wf_T_18 rfl d_T_enrolledForBoth_27 ?_
          refine lv_iload hx hb d_T_enrolledForBoth_30 (lv_at hl 4 rfl) ?_
          obtain ⟨g4, hf⟩ := xgd_some hf
          refine xr_iald hx hb hK hP sX_4 g4 d_T_enrolledForBoth_32 ?_
          refine lv_iload_n hx hb d_T_enrolledForBoth_33 rfl (lv_at hl 2 rfl) ?_
          obtain ⟨r5, hr5, hf⟩ := xbd_some hf
          refine xc_rn (rest := []) F hT hK hP (tE_has l G c3 ad M (M 4 v4.toNatClampNeg) a2 r5 hr5) wm_T_57 ws_E_has wn_E wc_E_has ck_E_has ⟨rfl, rfl⟩ ⟨by decide, by decide⟩ ⟨Nat.le_refl _, Nat.le_refl _⟩ hl.1 rfl (Nat.le_of_ble_eq_true rfl) d_T_enrolledForBoth_34 ?_
          refine lv_if_eq (tgt := 43) hx hb d_T_enrolledForBoth_37 rfl (fun hc => ?_) (fun hc => ?_)
          · have hf := ite_t hc hf
            exact K43 v3 v4 _  hl hf
          · have hf := ite_f hc hf
            obtain ⟨x6, hx6, hf⟩ := xlt_some hf
            refine lv_iinc (k := 3) (lv' := [(3, .int x6), (0, .ref (ad 1)), (1, .int a1), (2, .int a2), (4, .int v4)]) hx hb d_T_enrolledForBoth_40 hl rfl hx6 (by decide) rfl (fun ls hl => ?_)
            exact K43 x6 v4 _  (lv_sub hl [1, 2, 3, 0, 4] rfl) hf
  exact LH5 n5 0 0 _ (lv_sub hl [2, 3, 4, 1, 0] rfl) hq5
noncomputable def fE_clash_19 (v1 v2 s19_0 : Int32) (M : Mem) : Option (Int32) := xbd (fE_mustExist s19_0) (fun _ => xbd (fT_enrolledForBoth v1 v2 M) (fun r2 => some r2))
noncomputable def fE_clash_18 (v1 v2 : Int32) (M : Mem) : Option (Int32) := fE_clash_19 v1 v2 0 M
noncomputable def fE_clash (a1 a2 : Int32) (M : Mem) : Option (Int32) := xbd (fE_isPaper a1) (fun r3 => if r3 = 0 then (fE_clash_18 a1 a2 M) else (xbd (fE_isPaper a2) (fun r4 => if r4 = 0 then (fE_clash_18 a1 a2 M) else (fE_clash_19 a1 a2 1 M))))
set_option maxHeartbeats 4000000 in
set_option maxRecDepth 100000 in
theorem tE_clash (l : Launch) (G : va_G) (c3 : ClassId × ClassId × ClassId) (ad : Nat → Nat) (M : Mem) (a1 a2 : Int32) (out : Int32) (hf : fE_clash a1 a2 M = some out) : RMet l yE_clash cE_clash 3 (some .int) (rm0_ 2 45) G kl SX c3 ad M [.ref (ad 0), .int a1, .int a2] out := by
  refine RMet.of (by decide +kernel) (Nat.le_of_ble_eq_true rfl) (fun p e s m args below meth c ls F hT hK hP hr hlk hl => ?_)
  have hx := F.1
  have hb := F.2.1
  have F : CallFix p m c cE_clash 3 s args gw RE := F
  have hown := F.2.2.2.1
  have hl : lv_has ls 3 [(0, .ref (ad 0)), (1, .int a1), (2, .int a2)] := hl
  have K19 : ∀ (v1 v2 s19_0 : Int32) (ls : Array Slot), lv_has ls 3 [(0, .ref (ad 0)), (1, .int v1), (2, .int v2)] → fE_clash_19 v1 v2 s19_0 M = some out → W p l e (rm0_ 2 45) s m args below meth c s.heap [] 0 0 (MQ below (QcRead out) args s 0 0 (fun _ => False)) (F0 m 19 ls [.int s19_0]) := by
    intro v1 v2 s19_0 ls  hl hf
    unfold fE_clash_19 at hf
    obtain ⟨r1, hr1, hf⟩ := xbd_some hf
    refine xc_vs (rest := []) F hT hK hP (tE_mustExist l G c3 ad M s19_0 hr1) wl_E_34 ws_E_mustExist wn_E wc_E_mustExist ck_E_mustExist ⟨rfl, rfl⟩ ⟨by decide, by decide⟩ ⟨Nat.le_refl _, Nat.le_refl _⟩ hl.1 rfl (Nat.le_of_ble_eq_true rfl) d_E_clash_19 ?_
    refine lv_aload_n hx hb d_E_clash_22 rfl (lv_at hl 0 rfl) ?_
    refine xr_getr hx hb hT hown hK hP sX_0 rfl inE 0 (by decide) wf_E_12 rfl d_E_clash_23 ?_
    refine lv_iload_n hx hb d_E_clash_26 rfl (lv_at hl 1 rfl) ?_
    refine lv_iload_n hx hb d_E_clash_27 rfl (lv_at hl 2 rfl) ?_
    obtain ⟨r2, hr2, hf⟩ := xbd_some hf
    refine xc_rv (rest := []) F hT hK hP (tT_enrolledForBoth l G c3 ad M v1 v2 r2 hr2) sX_1 rfl wl_E_89 wi_T_enrolledForBoth we_T_enrolledForBoth wn_T wc_T_enrolledForBoth ck_T_enrolledForBoth ⟨rfl, rfl⟩ ⟨by decide, by decide⟩ ⟨Nat.le_refl _, Nat.le_refl _⟩ hl.1 rfl (Nat.le_of_ble_eq_true rfl) d_E_clash_28 ?_
    exact xr_iret hx hb hr hlk (Option.some.inj hf) d_E_clash_31
  have K18 : ∀ (v1 v2 : Int32) (ls : Array Slot), lv_has ls 3 [(0, .ref (ad 0)), (1, .int v1), (2, .int v2)] → fE_clash_18 v1 v2 M = some out → W p l e (rm0_ 2 45) s m args below meth c s.heap [] 0 0 (MQ below (QcRead out) args s 0 0 (fun _ => False)) (F0 m 18 ls []) := by
    intro v1 v2 ls  hl hf
    unfold fE_clash_18 at hf
    refine lv_iconst (v := 0) hx hb d_E_clash_18 rfl ?_
    exact K19 v1 v2 0 _  hl hf
  unfold fE_clash at hf
  refine lv_iload_n hx hb d_E_clash_0 rfl (lv_at hl 1 rfl) ?_
  obtain ⟨r3, hr3, hf⟩ := xbd_some hf
  refine xc_rs (rest := []) F hT hK hP (tE_isPaper l G c3 ad M a1 r3 hr3) wl_E_30 ws_E_isPaper wn_E wc_E_isPaper ck_E_isPaper ⟨rfl, rfl⟩ ⟨by decide, by decide⟩ ⟨Nat.le_refl _, Nat.le_refl _⟩ hl.1 rfl (Nat.le_of_ble_eq_true rfl) d_E_clash_1 ?_
  refine lv_if_eq (tgt := 18) hx hb d_E_clash_4 rfl (fun hc => ?_) (fun hc => ?_)
  · have hf := ite_t hc hf
    exact K18 a1 a2 _  hl hf
  · have hf := ite_f hc hf
    refine lv_iload_n hx hb d_E_clash_7 rfl (lv_at hl 2 rfl) ?_
    obtain ⟨r4, hr4, hf⟩ := xbd_some hf
    refine xc_rs (rest := []) F hT hK hP (tE_isPaper l G c3 ad M a2 r4 hr4) wl_E_30 ws_E_isPaper wn_E wc_E_isPaper ck_E_isPaper ⟨rfl, rfl⟩ ⟨by decide, by decide⟩ ⟨Nat.le_refl _, Nat.le_refl _⟩ hl.1 rfl (Nat.le_of_ble_eq_true rfl) d_E_clash_8 ?_
    refine lv_if_eq (tgt := 18) hx hb d_E_clash_11 rfl (fun hc => ?_) (fun hc => ?_)
    · have hf := ite_t hc hf
      exact K18 a1 a2 _  hl hf
    · have hf := ite_f hc hf
      refine lv_iconst (v := 1) hx hb d_E_clash_14 rfl ?_
      refine lv_goto (tgt := 19) hx hb d_E_clash_15 rfl ?_
      exact K19 a1 a2 1 _  hl hf
noncomputable def fE_planned (a1 : Int32) (M : Mem) : Option (Int32) := xbd (fE_isPaper a1) (fun r1 => xbd (fE_mustExist r1) (fun _ => xgd (vp_in a1 9) (some (M 11 a1.toNatClampNeg))))
set_option maxHeartbeats 4000000 in
set_option maxRecDepth 100000 in
theorem tE_planned (l : Launch) (G : va_G) (c3 : ClassId × ClassId × ClassId) (ad : Nat → Nat) (M : Mem) (a1 : Int32) (out : Int32) (hf : fE_planned a1 M = some out) : RMet l yE_planned cE_planned 2 (some .int) (rm0_ 2 41) G kl SX c3 ad M [.ref (ad 0), .int a1] out := by
  refine RMet.of (by decide +kernel) (Nat.le_of_ble_eq_true rfl) (fun p e s m args below meth c ls F hT hK hP hr hlk hl => ?_)
  have hx := F.1
  have hb := F.2.1
  have F : CallFix p m c cE_planned 2 s args gw RE := F
  have hown := F.2.2.2.1
  have hl : lv_has ls 2 [(0, .ref (ad 0)), (1, .int a1)] := hl
  unfold fE_planned at hf
  refine lv_iload_n hx hb d_E_planned_0 rfl (lv_at hl 1 rfl) ?_
  obtain ⟨r1, hr1, hf⟩ := xbd_some hf
  refine xc_rs (rest := []) F hT hK hP (tE_isPaper l G c3 ad M a1 r1 hr1) wl_E_30 ws_E_isPaper wn_E wc_E_isPaper ck_E_isPaper ⟨rfl, rfl⟩ ⟨by decide, by decide⟩ ⟨Nat.le_refl _, Nat.le_refl _⟩ hl.1 rfl (Nat.le_of_ble_eq_true rfl) d_E_planned_1 ?_
  obtain ⟨r2, hr2, hf⟩ := xbd_some hf
  refine xc_vs (rest := []) F hT hK hP (tE_mustExist l G c3 ad M r1 hr2) wl_E_34 ws_E_mustExist wn_E wc_E_mustExist ck_E_mustExist ⟨rfl, rfl⟩ ⟨by decide, by decide⟩ ⟨Nat.le_refl _, Nat.le_refl _⟩ hl.1 rfl (Nat.le_of_ble_eq_true rfl) d_E_planned_4 ?_
  refine lv_aload_n hx hb d_E_planned_7 rfl (lv_at hl 0 rfl) ?_
  refine xr_getr hx hb hT hown hK hP sX_0 rfl inE 0 (by decide) wf_E_12 rfl d_E_planned_8 ?_
  refine xr_getr hx hb hT hown hK hP sX_1 rfl inT 6 (by decide) wf_E_97 rfl d_E_planned_11 ?_
  refine lv_iload_n hx hb d_E_planned_14 rfl (lv_at hl 1 rfl) ?_
  obtain ⟨g3, hf⟩ := xgd_some hf
  refine xr_iald hx hb hK hP sX_11 g3 d_E_planned_15 ?_
  exact xr_iret hx hb hr hlk (Option.some.inj hf) d_E_planned_16
noncomputable def fE_isRoom (a0 : Int32) : Option (Int32) := xbd (fE_isBelow a0 4) (fun r1 => xgd (r1 = 0 ∨ r1 = 1) (some r1))
set_option maxHeartbeats 4000000 in
set_option maxRecDepth 100000 in
theorem tE_isRoom (l : Launch) (G : va_G) (c3 : ClassId × ClassId × ClassId) (ad : Nat → Nat) (M : Mem) (a0 : Int32) (out : Int32) (hf : fE_isRoom a0 = some out) : RMet l yE_isRoom cE_isRoom 1 (some .boolean) (rm0_ 1 21) G kl SX c3 ad M [.int a0] out := by
  refine RMet.of (by decide +kernel) (Nat.le_of_ble_eq_true rfl) (fun p e s m args below meth c ls F hT hK hP hr hlk hl => ?_)
  have hx := F.1
  have hb := F.2.1
  have F : CallFix p m c cE_isRoom 1 s args gw RE := F
  have hown := F.2.2.2.1
  have hl : lv_has ls 1 [(0, .int a0)] := hl
  unfold fE_isRoom at hf
  refine lv_iload_n hx hb d_E_isRoom_0 rfl (lv_at hl 0 rfl) ?_
  refine lv_iconst (v := 4) hx hb d_E_isRoom_1 rfl ?_
  obtain ⟨r1, hr1, hf⟩ := xbd_some hf
  refine xc_rs (rest := []) F hT hK hP (tE_isBelow l G c3 ad M a0 4 r1 hr1) wl_E_75 ws_E_isBelow wn_E wc_E_isBelow ck_E_isBelow ⟨rfl, rfl⟩ ⟨by decide, by decide⟩ ⟨Nat.le_refl _, Nat.le_refl _⟩ hl.1 rfl (Nat.le_of_ble_eq_true rfl) d_E_isRoom_2 ?_
  obtain ⟨z2, hf⟩ := xgd_some hf
  exact xr_zret hx hb hr hlk z2 (Option.some.inj hf) d_E_isRoom_5
noncomputable def fR_furnish_55 (v1 v2 v3 v4 : Int32) (M : Mem) : Option (Mem) := xgd (vp_in v1 4) (xlt (up2 M 19 v1.toNatClampNeg v2) (fun M2 => xgd (vp_in v1 4) (xlt (up2 M2 20 v1.toNatClampNeg v3) (fun M4 => xgd (vp_in v1 4) (xlt (up2 M4 21 v1.toNatClampNeg (vp_nar .boolean v4)) (fun M6 => some M6))))))
noncomputable def fR_furnish_49 (v1 v2 v3 v4 v5 : Int32) (M : Mem) : Option ((Int32 × Mem) ⊕ (Int32 × Mem)) := xlt (v5 + 1) (fun x7 => some (.inr (x7, M)))
noncomputable def gR_furnish_28 (v1 v2 v3 v4 v5 : Int32) (v6 : Int32) (M : Mem) : Option ((Int32 × Mem) ⊕ (Int32 × Mem)) := if 6 ≤ v6 then (some (.inl (v6, M))) else (xbd (fR_vacate v6 v5 M) (fun r8 => xlt (v6 + 1) (fun x9 => some (.inr (x9, r8)))))
noncomputable def bR_furnish_28 (v1 v2 v3 v4 v5 : Int32) : Int32 × Mem → Option ((Int32 × Mem) ⊕ (Int32 × Mem)) := fun st => gR_furnish_28 v1 v2 v3 v4 v5 st.1 st.2
noncomputable def gR_furnish_6 (v1 v2 v3 v4 : Int32) (v5 : Int32) (M : Mem) : Option ((Int32 × Mem) ⊕ (Int32 × Mem)) := if ((v1 + 1) * 36) ≤ v5 then (some (.inl (v5, M))) else (xgd (vp_in v5 144) (xlt (up2 M 22 v5.toNatClampNeg (vp_nar .boolean 0)) (fun M11 => xbd (xlp (bR_furnish_28 v1 v2 v3 v4 v5) (0, M11)) (fun e28 => fR_furnish_49 v1 v2 v3 v4 v5 e28.2))))
noncomputable def bR_furnish_6 (v1 v2 v3 v4 : Int32) : Int32 × Mem → Option ((Int32 × Mem) ⊕ (Int32 × Mem)) := fun st => gR_furnish_6 v1 v2 v3 v4 st.1 st.2
noncomputable def fR_furnish (a1 a2 a3 a4 : Int32) (M : Mem) : Option (Mem) := xlt ((a1 * 36)) (fun x14 => xbd (xlp (bR_furnish_6 a1 a2 a3 a4) (x14, M)) (fun e6 => fR_furnish_55 a1 a2 a3 a4 e6.2))
set_option maxHeartbeats 4000000 in
set_option maxRecDepth 100000 in
theorem tR_furnish (l : Launch) (G : va_G) (c3 : ClassId × ClassId × ClassId) (ad : Nat → Nat) (hd : adI SX ad) (M : Mem) (a1 a2 a3 a4 : Int32) (out : Mem) (hf : fR_furnish a1 a2 a3 a4 M = some out) : WMet l yR_furnish cR_furnish 7 none (rm0_ 1 22) G kl SX c3 ad M [.ref (ad 18), .int a1, .int a2, .int a3, .int a4] none out := by
  refine WMet.of (by decide +kernel) (Nat.le_of_ble_eq_true rfl) (fun p e s m args below meth c ls F hT hK hP hr hlk hl hS => ?_)
  have hx := F.1
  have hb := F.2.1
  have F : CallFix p m c cR_furnish 7 s args gw RR := F
  have hown := F.2.2.2.1
  have hl : lv_has ls 7 [(0, .ref (ad 18)), (1, .int a1), (2, .int a2), (3, .int a3), (4, .int a4)] := hl
  revert hP hS
  suffices hall : ∀ (H : Heap) (locs : List Loc), va_P G kl (wd SX c3 ad M) H → va_S (adA SX ad) s.heap H locs → W p l e (rm0_ 1 22) s m args below meth c H locs 0 0 (MQ below (QW G kl SX c3 ad none out) args s 0 0 (adA SX ad)) (F0 m 0 ls []) from hall s.heap []
  intro H locs hP hS
  have K55 : ∀ (v1 v2 v3 v4 : Int32) (M : Mem) (H : Heap) (locs : List Loc) (ls : Array Slot), lv_has ls 7 [(0, .ref (ad 18)), (1, .int v1), (2, .int v2), (3, .int v3), (4, .int v4)] → va_P G kl (wd SX c3 ad M) H → va_S (adA SX ad) s.heap H locs → fR_furnish_55 v1 v2 v3 v4 M = some out → W p l e (rm0_ 1 22) s m args below meth c H locs 0 0 (MQ below (QW G kl SX c3 ad none out) args s 0 0 (adA SX ad)) (F0 m 55 ls []) := by
    intro v1 v2 v3 v4 M H locs ls  hl hP hS hf
    unfold fR_furnish_55 at hf
    refine lv_aload_n hx hb d_R_furnish_55 rfl (lv_at hl 0 rfl) ?_
    refine xr_getr hx hb hT hown hK hP sX_18 rfl inR 0 (by decide) wf_R_9 rfl d_R_furnish_56 ?_
    refine lv_iload_n hx hb d_R_furnish_59 rfl (lv_at hl 1 rfl) ?_
    refine lv_iload_n hx hb d_R_furnish_60 rfl (lv_at hl 2 rfl) ?_
    obtain ⟨g1, hf⟩ := xgd_some hf
    obtain ⟨M2, hM2, hf⟩ := xlt_some hf
    refine xr_iast hx hb hd hK hP hS sX_19 g1 d_R_furnish_61 (fun H locs hP hS => ?_)
    rw [hM2] at hP
    refine lv_aload_n hx hb d_R_furnish_62 rfl (lv_at hl 0 rfl) ?_
    refine xr_getr hx hb hT hown hK hP sX_18 rfl inR 1 (by decide) wf_R_15 rfl d_R_furnish_63 ?_
    refine lv_iload_n hx hb d_R_furnish_66 rfl (lv_at hl 1 rfl) ?_
    refine lv_iload_n hx hb d_R_furnish_67 rfl (lv_at hl 3 rfl) ?_
    obtain ⟨g3, hf⟩ := xgd_some hf
    obtain ⟨M4, hM4, hf⟩ := xlt_some hf
    refine xr_iast hx hb hd hK hP hS sX_20 g3 d_R_furnish_68 (fun H locs hP hS => ?_)
    rw [hM4] at hP
    refine lv_aload_n hx hb d_R_furnish_69 rfl (lv_at hl 0 rfl) ?_
    refine xr_getr hx hb hT hown hK hP sX_18 rfl inR 2 (by decide) wf_R_18 rfl d_R_furnish_70 ?_
    refine lv_iload_n hx hb d_R_furnish_73 rfl (lv_at hl 1 rfl) ?_
    refine lv_iload hx hb d_R_furnish_74 (lv_at hl 4 rfl) ?_
    obtain ⟨g5, hf⟩ := xgd_some hf
    obtain ⟨M6, hM6, hf⟩ := xlt_some hf
    refine xr_zast hx hb hd hK hP hS sX_21 g5 d_R_furnish_76 (fun H locs hP hS => ?_)
    rw [hM6] at hP
    exact xw_vret hx hb hr hlk hP hS (Option.some.inj hf) d_R_furnish_77
  unfold fR_furnish at hf
  refine lv_iload_n hx hb d_R_furnish_0 rfl (lv_at hl 1 rfl) ?_
  refine lv_bipush (v := 36) hx hb d_R_furnish_1 rfl ?_
  refine lv_imul hx hb d_R_furnish_3 ?_
  obtain ⟨x7, hx7, hf⟩ := xlt_some hf
  refine xr_name hx7 ?_
  refine lv_istore (lv' := [(5, .int x7), (0, .ref (ad 18)), (1, .int a1), (2, .int a2), (3, .int a3), (4, .int a4)]) hx hb d_R_furnish_4 hl (by decide) rfl (fun ls hl => ?_)
  obtain ⟨e6, he6, hk6⟩ := xbd_some hf
  obtain ⟨n6, hq6⟩ := xlp_n he6
  have LH6 : ∀ (n : Nat) (v5 : Int32) (M : Mem) (H : Heap) (locs : List Loc) (ls : Array Slot), lv_has ls 7 [(0, .ref (ad 18)), (1, .int a1), (2, .int a2), (3, .int a3), (4, .int a4), (5, .int v5)] → va_P G kl (wd SX c3 ad M) H → va_S (adA SX ad) s.heap H locs → xwh (bR_furnish_6 a1 a2 a3 a4) n (v5, M) = some e6 → W p l e (rm0_ 1 22) s m args below meth c H locs 0 0 (MQ below (QW G kl SX c3 ad none out) args s 0 0 (adA SX ad)) (F0 m 6 ls []) := by
    intro n
    induction n with
    | zero =>
      intro v5 M H locs ls hl hP hS hn
      exact xwh_0 hn
    | succ n ih6 =>
      intro v5 M H locs ls hl hP hS hn6
      obtain ⟨o6, hf, hn6⟩ := xwh_s hn6
      have hf : gR_furnish_6 a1 a2 a3 a4 v5 M = some o6 := hf
      have K49 : ∀ (v5 : Int32) (M : Mem) (H : Heap) (locs : List Loc) (ls : Array Slot), lv_has ls 7 [(0, .ref (ad 18)), (1, .int a1), (2, .int a2), (3, .int a3), (4, .int a4), (5, .int v5)] → va_P G kl (wd SX c3 ad M) H → va_S (adA SX ad) s.heap H locs → fR_furnish_49 a1 a2 a3 a4 v5 M = some o6 → W p l e (rm0_ 1 22) s m args below meth c H locs 0 0 (MQ below (QW G kl SX c3 ad none out) args s 0 0 (adA SX ad)) (F0 m 49 ls []) := by
        intro v5 M H locs ls  hl hP hS hf
        unfold fR_furnish_49 at hf
        obtain ⟨x8, hx8, hf⟩ := xlt_some hf
        refine lv_iinc (k := 5) (lv' := [(5, .int x8), (0, .ref (ad 18)), (1, .int a1), (2, .int a2), (3, .int a3), (4, .int a4)]) hx hb d_R_furnish_49 hl rfl hx8 (by decide) rfl (fun ls hl => ?_)
        refine lv_goto (tgt := 6) hx hb d_R_furnish_52 rfl ?_
        exact ih6 x8 M _ _ _ (lv_sub hl [1, 2, 3, 4, 5, 0] rfl) hP hS (xw_again hf hn6)
      unfold gR_furnish_6 at hf
      refine lv_iload hx hb d_R_furnish_6 (lv_at hl 5 rfl) ?_
      refine lv_iload_n hx hb d_R_furnish_8 rfl (lv_at hl 1 rfl) ?_
      refine lv_iconst (v := 1) hx hb d_R_furnish_9 rfl ?_
      refine lv_iadd hx hb d_R_furnish_10 ?_
      refine lv_bipush (v := 36) hx hb d_R_furnish_11 rfl ?_
      refine lv_imul hx hb d_R_furnish_13 ?_
      refine lv_icmp_ge (tgt := 55) hx hb d_R_furnish_14 rfl (fun hc => ?_) (fun hc => ?_)
      · have hf := ite_t hc hf
        have he := xw_exit hf hn6
        subst he
        have hf := hk6
        exact K55 a1 a2 a3 a4 M _ _ _  (lv_sub hl [0, 1, 2, 3, 4] rfl) hP hS hf
      · have hf := ite_f hc hf
        refine lv_aload_n hx hb d_R_furnish_17 rfl (lv_at hl 0 rfl) ?_
        refine xr_getr hx hb hT hown hK hP sX_18 rfl inR 3 (by decide) wf_R_22 rfl d_R_furnish_18 ?_
        refine lv_iload hx hb d_R_furnish_21 (lv_at hl 5 rfl) ?_
        refine lv_iconst (v := 0) hx hb d_R_furnish_23 rfl ?_
        obtain ⟨g9, hf⟩ := xgd_some hf
        obtain ⟨M10, hM10, hf⟩ := xlt_some hf
        refine xr_zast hx hb hd hK hP hS sX_22 g9 d_R_furnish_24 (fun H locs hP hS => ?_)
        rw [hM10] at hP
        refine lv_iconst (v := 0) hx hb d_R_furnish_25 rfl ?_
        refine lv_istore (lv' := [(6, .int 0), (0, .ref (ad 18)), (1, .int a1), (2, .int a2), (3, .int a3), (4, .int a4), (5, .int v5)]) hx hb d_R_furnish_26 hl (by decide) rfl (fun ls hl => ?_)
        obtain ⟨e28, he28, hk28⟩ := xbd_some hf
        obtain ⟨n28, hq28⟩ := xlp_n he28
        have LH28 : ∀ (n : Nat) (v6 : Int32) (M : Mem) (H : Heap) (locs : List Loc) (ls : Array Slot), lv_has ls 7 [(0, .ref (ad 18)), (1, .int a1), (2, .int a2), (3, .int a3), (4, .int a4), (5, .int v5), (6, .int v6)] → va_P G kl (wd SX c3 ad M) H → va_S (adA SX ad) s.heap H locs → xwh (bR_furnish_28 a1 a2 a3 a4 v5) n (v6, M) = some e28 → W p l e (rm0_ 1 22) s m args below meth c H locs 0 0 (MQ below (QW G kl SX c3 ad none out) args s 0 0 (adA SX ad)) (F0 m 28 ls []) := by
          intro n
          induction n with
          | zero =>
            intro v6 M H locs ls hl hP hS hn
            exact xwh_0 hn
          | succ n ih28 =>
            intro v6 M H locs ls hl hP hS hn28
            obtain ⟨o28, hf, hn28⟩ := xwh_s hn28
            have hf : gR_furnish_28 a1 a2 a3 a4 v5 v6 M = some o28 := hf
            unfold gR_furnish_28 at hf
            refine lv_iload hx hb d_R_furnish_28 (lv_at hl 6 rfl) ?_
            refine lv_bipush (v := 6) hx hb d_R_furnish_30 rfl ?_
            refine lv_icmp_ge (tgt := 49) hx hb d_R_furnish_32 rfl (fun hc => ?_) (fun hc => ?_)
            · have hf := ite_t hc hf
              have he := xw_exit hf hn28
              subst he
              have hf := hk28
              exact K49 v5 M _ _ _  (lv_sub hl [0, 1, 2, 3, 4, 5] rfl) hP hS hf
            · have hf := ite_f hc hf
              refine lv_aload_n hx hb d_R_furnish_35 rfl (lv_at hl 0 rfl) ?_
              refine lv_iload hx hb d_R_furnish_36 (lv_at hl 6 rfl) ?_
              refine lv_iload hx hb d_R_furnish_38 (lv_at hl 5 rfl) ?_
              obtain ⟨r11, hr11, hf⟩ := xbd_some hf
              refine xc_wv (rest := []) F hT hK hP hS (fun _ h => h) (tR_vacate l G c3 ad hd M v6 v5 r11 hr11) sX_18 rfl wl_R_42 wi_R_vacate we_R_vacate wn_R wc_R_vacate ck_R_vacate ⟨rfl, rfl⟩ ⟨by decide, by decide⟩ ⟨Nat.le_refl _, Nat.le_refl _⟩ hl.1 rfl (Nat.le_of_ble_eq_true rfl) d_R_furnish_40 (fun H locs hP hS _ => ?_)
              obtain ⟨x12, hx12, hf⟩ := xlt_some hf
              refine lv_iinc (k := 6) (lv' := [(6, .int x12), (0, .ref (ad 18)), (1, .int a1), (2, .int a2), (3, .int a3), (4, .int a4), (5, .int v5)]) hx hb d_R_furnish_43 hl rfl hx12 (by decide) rfl (fun ls hl => ?_)
              refine lv_goto (tgt := 28) hx hb d_R_furnish_46 rfl ?_
              exact ih28 x12 r11 _ _ _ (lv_sub hl [1, 2, 3, 4, 5, 6, 0] rfl) hP hS (xw_again hf hn28)
        exact LH28 n28 0 M10 _ _ _ (lv_sub hl [1, 2, 3, 4, 5, 6, 0] rfl) hP hS hq28
  exact LH6 n6 x7 M _ _ _ (lv_sub hl [1, 2, 3, 4, 5, 0] rfl) hP hS hq6
noncomputable def fE_room_30 (v1 v2 v3 v4 s30_0 : Int32) (M : Mem) : Option (Mem) := xbd (fE_mustBeAllowed s30_0) (fun _ => xbd (fR_furnish v1 v2 v3 v4 M) (fun r2 => xbd (fO_clear  r2) (fun r3 => some r3)))
noncomputable def fE_room_29 (v1 v2 v3 v4 : Int32) (M : Mem) : Option (Mem) := fE_room_30 v1 v2 v3 v4 0 M
noncomputable def fE_room (a1 a2 a3 a4 : Int32) (M : Mem) : Option (Mem) := xbd (fE_isRoom a1) (fun r4 => xbd (fE_mustExist r4) (fun _ => xbd (fE_isUpTo a2 6) (fun r6 => if r6 = 0 then (fE_room_29 a1 a2 a3 a4 M) else (xbd (fE_isUpTo a3 6) (fun r7 => if r7 = 0 then (fE_room_29 a1 a2 a3 a4 M) else (fE_room_30 a1 a2 a3 a4 1 M))))))
set_option maxHeartbeats 4000000 in
set_option maxRecDepth 100000 in
theorem tE_room (l : Launch) (G : va_G) (c3 : ClassId × ClassId × ClassId) (ad : Nat → Nat) (hd : adI SX ad) (M : Mem) (a1 a2 a3 a4 : Int32) (out : Mem) (hf : fE_room a1 a2 a3 a4 M = some out) : WMet l yE_room cE_room 5 none (rm0_ 2 48) G kl SX c3 ad M [.ref (ad 0), .int a1, .int a2, .int a3, .int a4] none out := by
  refine WMet.of (by decide +kernel) (Nat.le_of_ble_eq_true rfl) (fun p e s m args below meth c ls F hT hK hP hr hlk hl hS => ?_)
  have hx := F.1
  have hb := F.2.1
  have F : CallFix p m c cE_room 5 s args gw RE := F
  have hown := F.2.2.2.1
  have hl : lv_has ls 5 [(0, .ref (ad 0)), (1, .int a1), (2, .int a2), (3, .int a3), (4, .int a4)] := hl
  revert hP hS
  suffices hall : ∀ (H : Heap) (locs : List Loc), va_P G kl (wd SX c3 ad M) H → va_S (adA SX ad) s.heap H locs → W p l e (rm0_ 2 48) s m args below meth c H locs 0 0 (MQ below (QW G kl SX c3 ad none out) args s 0 0 (adA SX ad)) (F0 m 0 ls []) from hall s.heap []
  intro H locs hP hS
  have K30 : ∀ (v1 v2 v3 v4 s30_0 : Int32) (M : Mem) (H : Heap) (locs : List Loc) (ls : Array Slot), lv_has ls 5 [(0, .ref (ad 0)), (1, .int v1), (2, .int v2), (3, .int v3), (4, .int v4)] → va_P G kl (wd SX c3 ad M) H → va_S (adA SX ad) s.heap H locs → fE_room_30 v1 v2 v3 v4 s30_0 M = some out → W p l e (rm0_ 2 48) s m args below meth c H locs 0 0 (MQ below (QW G kl SX c3 ad none out) args s 0 0 (adA SX ad)) (F0 m 30 ls [.int s30_0]) := by
    intro v1 v2 v3 v4 s30_0 M H locs ls  hl hP hS hf
    unfold fE_room_30 at hf
    obtain ⟨r1, hr1, hf⟩ := xbd_some hf
    refine xc_vs (rest := []) F hT hK hP (tE_mustBeAllowed l G c3 ad M s30_0 hr1) wl_E_42 ws_E_mustBeAllowed wn_E wc_E_mustBeAllowed ck_E_mustBeAllowed ⟨rfl, rfl⟩ ⟨by decide, by decide⟩ ⟨Nat.le_refl _, Nat.le_refl _⟩ hl.1 rfl (Nat.le_of_ble_eq_true rfl) d_E_room_30 ?_
    refine lv_aload_n hx hb d_E_room_33 rfl (lv_at hl 0 rfl) ?_
    refine xr_getr hx hb hT hown hK hP sX_0 rfl inE 1 (by decide) wf_E_19 rfl d_E_room_34 ?_
    refine lv_iload_n hx hb d_E_room_37 rfl (lv_at hl 1 rfl) ?_
    refine lv_iload_n hx hb d_E_room_38 rfl (lv_at hl 2 rfl) ?_
    refine lv_iload_n hx hb d_E_room_39 rfl (lv_at hl 3 rfl) ?_
    refine lv_iload hx hb d_E_room_40 (lv_at hl 4 rfl) ?_
    obtain ⟨r2, hr2, hf⟩ := xbd_some hf
    refine xc_wv (rest := []) F hT hK hP hS (fun _ h => h) (tR_furnish l G c3 ad hd M v1 v2 v3 v4 r2 hr2) sX_18 rfl wl_E_106 wi_R_furnish we_R_furnish wn_R wc_R_furnish ck_R_furnish ⟨rfl, rfl⟩ ⟨by decide, by decide⟩ ⟨Nat.le_refl _, Nat.le_refl _⟩ hl.1 rfl (Nat.le_of_ble_eq_true rfl) d_E_room_42 (fun H locs hP hS _ => ?_)
    refine lv_aload_n hx hb d_E_room_45 rfl (lv_at hl 0 rfl) ?_
    refine xr_getr hx hb hT hown hK hP sX_0 rfl inE 2 (by decide) wf_E_26 rfl d_E_room_46 ?_
    obtain ⟨r3, hr3, hf⟩ := xbd_some hf
    refine xc_wv (rest := []) F hT hK hP hS (fun _ h => h) (tO_clear l G c3 ad hd r2  r3 hr3) sX_44 rfl wl_E_109 wi_O_clear we_O_clear wn_O wc_O_clear ck_O_clear ⟨rfl, rfl⟩ ⟨by decide, by decide⟩ ⟨Nat.le_refl _, Nat.le_refl _⟩ hl.1 rfl (Nat.le_of_ble_eq_true rfl) d_E_room_49 (fun H locs hP hS _ => ?_)
    exact xw_vret hx hb hr hlk hP hS (Option.some.inj hf) d_E_room_52
  have K29 : ∀ (v1 v2 v3 v4 : Int32) (M : Mem) (H : Heap) (locs : List Loc) (ls : Array Slot), lv_has ls 5 [(0, .ref (ad 0)), (1, .int v1), (2, .int v2), (3, .int v3), (4, .int v4)] → va_P G kl (wd SX c3 ad M) H → va_S (adA SX ad) s.heap H locs → fE_room_29 v1 v2 v3 v4 M = some out → W p l e (rm0_ 2 48) s m args below meth c H locs 0 0 (MQ below (QW G kl SX c3 ad none out) args s 0 0 (adA SX ad)) (F0 m 29 ls []) := by
    intro v1 v2 v3 v4 M H locs ls  hl hP hS hf
    unfold fE_room_29 at hf
    refine lv_iconst (v := 0) hx hb d_E_room_29 rfl ?_
    exact K30 v1 v2 v3 v4 0 M _ _ _  hl hP hS hf
  unfold fE_room at hf
  refine lv_iload_n hx hb d_E_room_0 rfl (lv_at hl 1 rfl) ?_
  obtain ⟨r4, hr4, hf⟩ := xbd_some hf
  refine xc_rs (rest := []) F hT hK hP (tE_isRoom l G c3 ad M a1 r4 hr4) wl_E_103 ws_E_isRoom wn_E wc_E_isRoom ck_E_isRoom ⟨rfl, rfl⟩ ⟨by decide, by decide⟩ ⟨Nat.le_refl _, Nat.le_refl _⟩ hl.1 rfl (Nat.le_of_ble_eq_true rfl) d_E_room_1 ?_
  obtain ⟨r5, hr5, hf⟩ := xbd_some hf
  refine xc_vs (rest := []) F hT hK hP (tE_mustExist l G c3 ad M r4 hr5) wl_E_34 ws_E_mustExist wn_E wc_E_mustExist ck_E_mustExist ⟨rfl, rfl⟩ ⟨by decide, by decide⟩ ⟨Nat.le_refl _, Nat.le_refl _⟩ hl.1 rfl (Nat.le_of_ble_eq_true rfl) d_E_room_4 ?_
  refine lv_iload_n hx hb d_E_room_7 rfl (lv_at hl 2 rfl) ?_
  refine lv_bipush (v := 6) hx hb d_E_room_8 rfl ?_
  obtain ⟨r6, hr6, hf⟩ := xbd_some hf
  refine xc_rs (rest := []) F hT hK hP (tE_isUpTo l G c3 ad M a2 6 r6 hr6) wl_E_38 ws_E_isUpTo wn_E wc_E_isUpTo ck_E_isUpTo ⟨rfl, rfl⟩ ⟨by decide, by decide⟩ ⟨Nat.le_refl _, Nat.le_refl _⟩ hl.1 rfl (Nat.le_of_ble_eq_true rfl) d_E_room_10 ?_
  refine lv_if_eq (tgt := 29) hx hb d_E_room_13 rfl (fun hc => ?_) (fun hc => ?_)
  · have hf := ite_t hc hf
    exact K29 a1 a2 a3 a4 M _ _ _  hl hP hS hf
  · have hf := ite_f hc hf
    refine lv_iload_n hx hb d_E_room_16 rfl (lv_at hl 3 rfl) ?_
    refine lv_bipush (v := 6) hx hb d_E_room_17 rfl ?_
    obtain ⟨r7, hr7, hf⟩ := xbd_some hf
    refine xc_rs (rest := []) F hT hK hP (tE_isUpTo l G c3 ad M a3 6 r7 hr7) wl_E_38 ws_E_isUpTo wn_E wc_E_isUpTo ck_E_isUpTo ⟨rfl, rfl⟩ ⟨by decide, by decide⟩ ⟨Nat.le_refl _, Nat.le_refl _⟩ hl.1 rfl (Nat.le_of_ble_eq_true rfl) d_E_room_19 ?_
    refine lv_if_eq (tgt := 29) hx hb d_E_room_22 rfl (fun hc => ?_) (fun hc => ?_)
    · have hf := ite_t hc hf
      exact K29 a1 a2 a3 a4 M _ _ _  hl hP hS hf
    · have hf := ite_f hc hf
      refine lv_iconst (v := 1) hx hb d_E_room_25 rfl ?_
      refine lv_goto (tgt := 30) hx hb d_E_room_26 rfl ?_
      exact K30 a1 a2 a3 a4 1 M _ _ _  hl hP hS hf
noncomputable def fR_hasPlace_31 (s31_0 : Int32) (M : Mem) : Option (Int32) := xgd (s31_0 = 0 ∨ s31_0 = 1) (some s31_0)
noncomputable def fR_hasPlace_30 (M : Mem) : Option (Int32) := fR_hasPlace_31 0 M
noncomputable def fR_hasPlace (a1 a2 a3 : Int32) (M : Mem) : Option (Int32) := xgd (vp_in a1 4) (xbd (fE_isBelow a2 (M 19 a1.toNatClampNeg)) (fun r3 => if r3 = 0 then (fR_hasPlace_30  M) else (xgd (vp_in a1 4) (xbd (fE_isBelow a3 (M 20 a1.toNatClampNeg)) (fun r5 => if r5 = 0 then (fR_hasPlace_30  M) else (fR_hasPlace_31 1 M))))))
set_option maxHeartbeats 4000000 in
set_option maxRecDepth 100000 in
theorem tR_hasPlace (l : Launch) (G : va_G) (c3 : ClassId × ClassId × ClassId) (ad : Nat → Nat) (M : Mem) (a1 a2 a3 : Int32) (out : Int32) (hf : fR_hasPlace a1 a2 a3 M = some out) : RMet l yR_hasPlace cR_hasPlace 4 (some .boolean) (rm0_ 1 21) G kl SX c3 ad M [.ref (ad 18), .int a1, .int a2, .int a3] out := by
  refine RMet.of (by decide +kernel) (Nat.le_of_ble_eq_true rfl) (fun p e s m args below meth c ls F hT hK hP hr hlk hl => ?_)
  have hx := F.1
  have hb := F.2.1
  have F : CallFix p m c cR_hasPlace 4 s args gw RR := F
  have hown := F.2.2.2.1
  have hl : lv_has ls 4 [(0, .ref (ad 18)), (1, .int a1), (2, .int a2), (3, .int a3)] := hl
  have K31 : ∀ (s31_0 : Int32) (ls : Array Slot), lv_has ls 4 [] → fR_hasPlace_31 s31_0 M = some out → W p l e (rm0_ 1 21) s m args below meth c s.heap [] 0 0 (MQ below (QcRead out) args s 0 0 (fun _ => False)) (F0 m 31 ls [.int s31_0]) := by
    intro s31_0 ls  hl hf
    unfold fR_hasPlace_31 at hf
    obtain ⟨z1, hf⟩ := xgd_some hf
    exact xr_zret hx hb hr hlk z1 (Option.some.inj hf) d_R_hasPlace_31
  have K30 : ∀ (ls : Array Slot), lv_has ls 4 [] → fR_hasPlace_30  M = some out → W p l e (rm0_ 1 21) s m args below meth c s.heap [] 0 0 (MQ below (QcRead out) args s 0 0 (fun _ => False)) (F0 m 30 ls []) := by
    intro  ls  hl hf
    unfold fR_hasPlace_30 at hf
    refine lv_iconst (v := 0) hx hb d_R_hasPlace_30 rfl ?_
    exact K31 0 _  hl hf
  unfold fR_hasPlace at hf
  refine lv_iload_n hx hb d_R_hasPlace_0 rfl (lv_at hl 2 rfl) ?_
  refine lv_aload_n hx hb d_R_hasPlace_1 rfl (lv_at hl 0 rfl) ?_
  refine xr_getr hx hb hT hown hK hP sX_18 rfl inR 0 (by decide) wf_R_9 rfl d_R_hasPlace_2 ?_
  refine lv_iload_n hx hb d_R_hasPlace_5 rfl (lv_at hl 1 rfl) ?_
  obtain ⟨g2, hf⟩ := xgd_some hf
  refine xr_iald hx hb hK hP sX_19 g2 d_R_hasPlace_6 ?_
  obtain ⟨r3, hr3, hf⟩ := xbd_some hf
  refine xc_rn (rest := []) F hT hK hP (tE_isBelow l G c3 ad M a2 (M 19 a1.toNatClampNeg) r3 hr3) wm_R_46 ws_E_isBelow wn_E wc_E_isBelow ck_E_isBelow ⟨rfl, rfl⟩ ⟨by decide, by decide⟩ ⟨Nat.le_refl _, Nat.le_refl _⟩ hl.1 rfl (Nat.le_of_ble_eq_true rfl) d_R_hasPlace_7 ?_
  refine lv_if_eq (tgt := 30) hx hb d_R_hasPlace_10 rfl (fun hc => ?_) (fun hc => ?_)
  · have hf := ite_t hc hf
    exact K30  _  (lv_sub hl [] rfl) hf
  · have hf := ite_f hc hf
    refine lv_iload_n hx hb d_R_hasPlace_13 rfl (lv_at hl 3 rfl) ?_
    refine lv_aload_n hx hb d_R_hasPlace_14 rfl (lv_at hl 0 rfl) ?_
    refine xr_getr hx hb hT hown hK hP sX_18 rfl inR 1 (by decide) wf_R_15 rfl d_R_hasPlace_15 ?_
    refine lv_iload_n hx hb d_R_hasPlace_18 rfl (lv_at hl 1 rfl) ?_
    obtain ⟨g4, hf⟩ := xgd_some hf
    refine xr_iald hx hb hK hP sX_20 g4 d_R_hasPlace_19 ?_
    obtain ⟨r5, hr5, hf⟩ := xbd_some hf
    refine xc_rn (rest := []) F hT hK hP (tE_isBelow l G c3 ad M a3 (M 20 a1.toNatClampNeg) r5 hr5) wm_R_46 ws_E_isBelow wn_E wc_E_isBelow ck_E_isBelow ⟨rfl, rfl⟩ ⟨by decide, by decide⟩ ⟨Nat.le_refl _, Nat.le_refl _⟩ hl.1 rfl (Nat.le_of_ble_eq_true rfl) d_R_hasPlace_20 ?_
    refine lv_if_eq (tgt := 30) hx hb d_R_hasPlace_23 rfl (fun hc => ?_) (fun hc => ?_)
    · have hf := ite_t hc hf
      exact K30  _  (lv_sub hl [] rfl) hf
    · have hf := ite_f hc hf
      refine lv_iconst (v := 1) hx hb d_R_hasPlace_26 rfl ?_
      refine lv_goto (tgt := 31) hx hb d_R_hasPlace_27 rfl ?_
      exact K31 1 _  (lv_sub hl [] rfl) hf
noncomputable def fE_placeAt (a0 a1 a2 : Int32) : Option (Int32) := some (((a0 * 36) + (a1 * 6)) + a2)
set_option maxHeartbeats 4000000 in
set_option maxRecDepth 100000 in
theorem tE_placeAt (l : Launch) (G : va_G) (c3 : ClassId × ClassId × ClassId) (ad : Nat → Nat) (M : Mem) (a0 a1 a2 : Int32) (out : Int32) (hf : fE_placeAt a0 a1 a2 = some out) : RMet l yE_placeAt cE_placeAt 3 (some .int) (rm0_ 0 0) G kl SX c3 ad M [.int a0, .int a1, .int a2] out := by
  refine RMet.of (by decide +kernel) (Nat.le_of_ble_eq_true rfl) (fun p e s m args below meth c ls F hT hK hP hr hlk hl => ?_)
  have hx := F.1
  have hb := F.2.1
  have F : CallFix p m c cE_placeAt 3 s args gw RE := F
  have hown := F.2.2.2.1
  have hl : lv_has ls 3 [(0, .int a0), (1, .int a1), (2, .int a2)] := hl
  unfold fE_placeAt at hf
  refine lv_iload_n hx hb d_E_placeAt_0 rfl (lv_at hl 0 rfl) ?_
  refine lv_bipush (v := 36) hx hb d_E_placeAt_1 rfl ?_
  refine lv_imul hx hb d_E_placeAt_3 ?_
  refine lv_iload_n hx hb d_E_placeAt_4 rfl (lv_at hl 1 rfl) ?_
  refine lv_bipush (v := 6) hx hb d_E_placeAt_5 rfl ?_
  refine lv_imul hx hb d_E_placeAt_7 ?_
  refine lv_iadd hx hb d_E_placeAt_8 ?_
  refine lv_iload_n hx hb d_E_placeAt_9 rfl (lv_at hl 2 rfl) ?_
  refine lv_iadd hx hb d_E_placeAt_10 ?_
  exact xr_iret hx hb hr hlk (Option.some.inj hf) d_E_placeAt_11
noncomputable def fR_isTaken_28 (M : Mem) : Option (Int32) := xgd ((0 : Int32) = 0 ∨ (0 : Int32) = 1) (some 0)
noncomputable def gR_isTaken_2 (v1 : Int32) (M : Mem) (v2 : Int32) : Option (((Int32) ⊕ (Int32)) ⊕ (Int32)) := if 6 ≤ v2 then (some (.inl (.inr v2))) else (xgd (vp_in v2 6) (xgd (vp_in v1 144) (if (M (23 + 1 + v2.toNatClampNeg) v1.toNatClampNeg) = (-1) then (xlt (v2 + 1) (fun x4 => some (.inr x4))) else (xgd ((1 : Int32) = 0 ∨ (1 : Int32) = 1) (some (.inl (.inl 1)))))))
noncomputable def bR_isTaken_2 (v1 : Int32) (M : Mem) : Int32 → Option (((Int32) ⊕ (Int32)) ⊕ (Int32)) := fun st => gR_isTaken_2 v1 M st
noncomputable def fR_isTaken (a1 : Int32) (M : Mem) : Option (Int32) := xbd (xlp (bR_isTaken_2 a1 M) 0) (fun e2 => Sum.elim (fun r2 => some r2) (fun t2 => fR_isTaken_28  M) e2)
set_option maxHeartbeats 4000000 in
set_option maxRecDepth 100000 in
theorem tR_isTaken (l : Launch) (G : va_G) (c3 : ClassId × ClassId × ClassId) (ad : Nat → Nat) (M : Mem) (a1 : Int32) (out : Int32) (hf : fR_isTaken a1 M = some out) : RMet l yR_isTaken cR_isTaken 3 (some .boolean) (rm0_ 0 0) G kl SX c3 ad M [.ref (ad 18), .int a1] out := by
  refine RMet.of (by decide +kernel) (Nat.le_of_ble_eq_true rfl) (fun p e s m args below meth c ls F hT hK hP hr hlk hl => ?_)
  have hx := F.1
  have hb := F.2.1
  have F : CallFix p m c cR_isTaken 3 s args gw RR := F
  have hown := F.2.2.2.1
  have hl : lv_has ls 3 [(0, .ref (ad 18)), (1, .int a1)] := hl
  have K28 : ∀ (ls : Array Slot), lv_has ls 3 [] → fR_isTaken_28  M = some out → W p l e (rm0_ 0 0) s m args below meth c s.heap [] 0 0 (MQ below (QcRead out) args s 0 0 (fun _ => False)) (F0 m 28 ls []) := by
    intro  ls  hl hf
    unfold fR_isTaken_28 at hf
    refine lv_iconst (v := 0) hx hb d_R_isTaken_28 rfl ?_
    obtain ⟨z1, hf⟩ := xgd_some hf
    exact xr_zret hx hb hr hlk z1 (Option.some.inj hf) d_R_isTaken_29
  unfold fR_isTaken at hf
  refine lv_iconst (v := 0) hx hb d_R_isTaken_0 rfl ?_
  refine lv_istore_n (lv' := [(2, .int 0), (0, .ref (ad 18)), (1, .int a1)]) hx hb d_R_isTaken_1 rfl hl (by decide) rfl (fun ls hl => ?_)
  obtain ⟨e2, he2, hk2⟩ := xbd_some hf
  obtain ⟨n2, hq2⟩ := xlp_n he2
  have LH2 : ∀ (n : Nat) (v2 : Int32) (ls : Array Slot), lv_has ls 3 [(0, .ref (ad 18)), (1, .int a1), (2, .int v2)] → xwh (bR_isTaken_2 a1 M) n v2 = some e2 → W p l e (rm0_ 0 0) s m args below meth c s.heap [] 0 0 (MQ below (QcRead out) args s 0 0 (fun _ => False)) (F0 m 2 ls []) := by
    intro n
    induction n with
    | zero =>
      intro v2 ls hl hn
      exact xwh_0 hn
    | succ n ih2 =>
      intro v2 ls hl hn2
      obtain ⟨o2, hf, hn2⟩ := xwh_s hn2
      have hf : gR_isTaken_2 a1 M v2 = some o2 := hf
      unfold gR_isTaken_2 at hf
      refine lv_iload_n hx hb d_R_isTaken_2 rfl (lv_at hl 2 rfl) ?_
      refine lv_bipush (v := 6) hx hb d_R_isTaken_3 rfl ?_
      refine lv_icmp_ge (tgt := 28) hx hb d_R_isTaken_5 rfl (fun hc => ?_) (fun hc => ?_)
      · have hf := ite_t hc hf
        have he := xw_exit hf hn2
        subst he
        have hf := hk2
        exact K28  _  (lv_sub hl [] rfl) hf
      · have hf := ite_f hc hf
        refine lv_aload_n hx hb d_R_isTaken_8 rfl (lv_at hl 0 rfl) ?_
        refine xr_getr hx hb hT hown hK hP sX_18 rfl inR 4 (by decide) wf_R_27 rfl d_R_isTaken_9 ?_
        refine lv_iload_n hx hb d_R_isTaken_12 rfl (lv_at hl 2 rfl) ?_
        obtain ⟨g2, hf⟩ := xgd_some hf
        refine xr_aald hx hb hK hP sX_23 g2 d_R_isTaken_13 ?_
        refine lv_iload_n hx hb d_R_isTaken_14 rfl (lv_at hl 1 rfl) ?_
        obtain ⟨g3, hf⟩ := xgd_some hf
        refine xr_iald hx hb hK hP (sX_r23 g2) g3 d_R_isTaken_15 ?_
        refine lv_iconst (v := (-1)) hx hb d_R_isTaken_16 rfl ?_
        refine lv_icmp_eq (tgt := 22) hx hb d_R_isTaken_17 rfl (fun hc => ?_) (fun hc => ?_)
        · have hf := ite_t hc hf
          obtain ⟨x4, hx4, hf⟩ := xlt_some hf
          refine lv_iinc (k := 2) (lv' := [(2, .int x4), (0, .ref (ad 18)), (1, .int a1)]) hx hb d_R_isTaken_22 hl rfl hx4 (by decide) rfl (fun ls hl => ?_)
          refine lv_goto (tgt := 2) hx hb d_R_isTaken_25 rfl ?_
          exact ih2 x4 _ (lv_sub hl [1, 2, 0] rfl) (xw_again hf hn2)
        · have hf := ite_f hc hf
          refine lv_iconst (v := 1) hx hb d_R_isTaken_20 rfl ?_
          obtain ⟨z5, hf⟩ := xgd_some hf
          have he := xw_exit hf hn2
          subst he
          have hf := hk2
          exact xr_zret hx hb hr hlk z5 (Option.some.inj hf) d_R_isTaken_21
  exact LH2 n2 0 _ (lv_sub hl [1, 2, 0] rfl) hq2
noncomputable def fE_block_78 (v4 v5 s78_0 : Int32) (M : Mem) : Option (Int32 × Mem) := xgd (vp_in v5 144) (xlt (up2 M 22 v5.toNatClampNeg (vp_nar .boolean v4)) (fun M2 => xgd (s78_0 = 0 ∨ s78_0 = 1) (some (s78_0, M2))))
noncomputable def fE_block_25 (v1 v2 v3 v4 s25_0 : Int32) (M : Mem) : Option (Int32 × Mem) := xbd (fE_mustExist s25_0) (fun _ => xbd (fE_placeAt v1 v2 v3) (fun r5 => xbd (fR_isTaken r5 M) (fun r6 => if r6 = 0 then (xgd (vp_in r5 144) (if (M 22 r5.toNatClampNeg) = v4 then (fE_block_78 v4 r5 0 M) else (fE_block_78 v4 r5 1 M))) else (none))))
noncomputable def fE_block_24 (v1 v2 v3 v4 : Int32) (M : Mem) : Option (Int32 × Mem) := fE_block_25 v1 v2 v3 v4 0 M
noncomputable def fE_block (a1 a2 a3 a4 : Int32) (M : Mem) : Option (Int32 × Mem) := xbd (fE_isRoom a1) (fun r8 => if r8 = 0 then (fE_block_24 a1 a2 a3 a4 M) else (xbd (fR_hasPlace a1 a2 a3 M) (fun r9 => if r9 = 0 then (fE_block_24 a1 a2 a3 a4 M) else (fE_block_25 a1 a2 a3 a4 1 M))))
set_option maxHeartbeats 4000000 in
set_option maxRecDepth 100000 in
theorem tE_block (l : Launch) (G : va_G) (c3 : ClassId × ClassId × ClassId) (ad : Nat → Nat) (hd : adI SX ad) (M : Mem) (a1 a2 a3 a4 : Int32) (o1 : Int32) (o2 : Mem) (hf : fE_block a1 a2 a3 a4 M = some (o1, o2)) : WMet l yE_block cE_block 7 (some .boolean) (rm0_ 2 44) G kl SX c3 ad M [.ref (ad 0), .int a1, .int a2, .int a3, .int a4] (some (.int o1)) o2 := by
  generalize hout : (o1, o2) = out at hf
  obtain rfl : out.1 = o1 := by rw [← hout]
  obtain rfl : out.2 = o2 := by rw [← hout]
  clear hout
  refine WMet.of (by decide +kernel) (Nat.le_of_ble_eq_true rfl) (fun p e s m args below meth c ls F hT hK hP hr hlk hl hS => ?_)
  have hx := F.1
  have hb := F.2.1
  have F : CallFix p m c cE_block 7 s args gw RE := F
  have hown := F.2.2.2.1
  have hl : lv_has ls 7 [(0, .ref (ad 0)), (1, .int a1), (2, .int a2), (3, .int a3), (4, .int a4)] := hl
  revert hP hS
  suffices hall : ∀ (H : Heap) (locs : List Loc), va_P G kl (wd SX c3 ad M) H → va_S (adA SX ad) s.heap H locs → W p l e (rm0_ 2 44) s m args below meth c H locs 0 0 (MQ below (QW G kl SX c3 ad (some (.int out.1)) out.2) args s 0 0 (adA SX ad)) (F0 m 0 ls []) from hall s.heap []
  intro H locs hP hS
  have K78 : ∀ (v4 v5 s78_0 : Int32) (M : Mem) (H : Heap) (locs : List Loc) (ls : Array Slot), lv_has ls 7 [(0, .ref (ad 0)), (4, .int v4), (5, .int v5)] → va_P G kl (wd SX c3 ad M) H → va_S (adA SX ad) s.heap H locs → fE_block_78 v4 v5 s78_0 M = some out → W p l e (rm0_ 2 44) s m args below meth c H locs 0 0 (MQ below (QW G kl SX c3 ad (some (.int out.1)) out.2) args s 0 0 (adA SX ad)) (F0 m 78 ls [.int s78_0]) := by
    intro v4 v5 s78_0 M H locs ls  hl hP hS hf
    unfold fE_block_78 at hf
    refine lv_istore (lv' := [(6, .int s78_0), (0, .ref (ad 0)), (4, .int v4), (5, .int v5)]) hx hb d_E_block_78 hl (by decide) rfl (fun ls hl => ?_)
    refine lv_aload_n hx hb d_E_block_80 rfl (lv_at hl 1 rfl) ?_
    refine xr_getr hx hb hT hown hK hP sX_0 rfl inE 1 (by decide) wf_E_19 rfl d_E_block_81 ?_
    refine xr_getr hx hb hT hown hK hP sX_18 rfl inR 3 (by decide) wf_E_129 rfl d_E_block_84 ?_
    refine lv_iload hx hb d_E_block_87 (lv_at hl 3 rfl) ?_
    refine lv_iload hx hb d_E_block_89 (lv_at hl 2 rfl) ?_
    obtain ⟨g1, hf⟩ := xgd_some hf
    obtain ⟨M2, hM2, hf⟩ := xlt_some hf
    refine xr_zast hx hb hd hK hP hS sX_22 g1 d_E_block_91 (fun H locs hP hS => ?_)
    rw [hM2] at hP
    refine lv_iload hx hb d_E_block_92 (lv_at hl 0 rfl) ?_
    obtain ⟨z3, hf⟩ := xgd_some hf
    exact xw_zret hx hb hr hlk hP hS z3 (Option.some.inj hf) d_E_block_94
  have K25 : ∀ (v1 v2 v3 v4 s25_0 : Int32) (M : Mem) (H : Heap) (locs : List Loc) (ls : Array Slot), lv_has ls 7 [(0, .ref (ad 0)), (1, .int v1), (2, .int v2), (3, .int v3), (4, .int v4)] → va_P G kl (wd SX c3 ad M) H → va_S (adA SX ad) s.heap H locs → fE_block_25 v1 v2 v3 v4 s25_0 M = some out → W p l e (rm0_ 2 44) s m args below meth c H locs 0 0 (MQ below (QW G kl SX c3 ad (some (.int out.1)) out.2) args s 0 0 (adA SX ad)) (F0 m 25 ls [.int s25_0]) := by
    intro v1 v2 v3 v4 s25_0 M H locs ls  hl hP hS hf
    unfold fE_block_25 at hf
    obtain ⟨r4, hr4, hf⟩ := xbd_some hf
    refine xc_vs (rest := []) F hT hK hP (tE_mustExist l G c3 ad M s25_0 hr4) wl_E_34 ws_E_mustExist wn_E wc_E_mustExist ck_E_mustExist ⟨rfl, rfl⟩ ⟨by decide, by decide⟩ ⟨Nat.le_refl _, Nat.le_refl _⟩ hl.1 rfl (Nat.le_of_ble_eq_true rfl) d_E_block_25 ?_
    refine lv_iload_n hx hb d_E_block_28 rfl (lv_at hl 1 rfl) ?_
    refine lv_iload_n hx hb d_E_block_29 rfl (lv_at hl 2 rfl) ?_
    refine lv_iload_n hx hb d_E_block_30 rfl (lv_at hl 3 rfl) ?_
    obtain ⟨r5, hr5, hf⟩ := xbd_some hf
    refine xc_rs (rest := []) F hT hK hP (tE_placeAt l G c3 ad M v1 v2 v3 r5 hr5) wl_E_115 ws_E_placeAt wn_E wc_E_placeAt ck_E_placeAt ⟨rfl, rfl⟩ ⟨by decide, by decide⟩ ⟨Nat.le_refl _, Nat.le_refl _⟩ hl.1 rfl (Nat.le_of_ble_eq_true rfl) d_E_block_31 ?_
    refine lv_istore (lv' := [(5, .int r5), (0, .ref (ad 0)), (1, .int v1), (2, .int v2), (3, .int v3), (4, .int v4)]) hx hb d_E_block_34 hl (by decide) rfl (fun ls hl => ?_)
    refine lv_aload_n hx hb d_E_block_36 rfl (lv_at hl 1 rfl) ?_
    refine xr_getr hx hb hT hown hK hP sX_0 rfl inE 1 (by decide) wf_E_19 rfl d_E_block_37 ?_
    refine lv_iload hx hb d_E_block_40 (lv_at hl 0 rfl) ?_
    obtain ⟨r6, hr6, hf⟩ := xbd_some hf
    refine xc_rv (rest := []) F hT hK hP (tR_isTaken l G c3 ad M r5 r6 hr6) sX_18 rfl wl_E_119 wi_R_isTaken we_R_isTaken wn_R wc_R_isTaken ck_R_isTaken ⟨rfl, rfl⟩ ⟨by decide, by decide⟩ ⟨Nat.le_refl _, Nat.le_refl _⟩ hl.1 rfl (Nat.le_of_ble_eq_true rfl) d_E_block_42 ?_
    refine lv_if_eq (tgt := 58) hx hb d_E_block_45 rfl (fun hc => ?_) (fun hc => ?_)
    · have hf := ite_t hc hf
      refine lv_aload_n hx hb d_E_block_58 rfl (lv_at hl 1 rfl) ?_
      refine xr_getr hx hb hT hown hK hP sX_0 rfl inE 1 (by decide) wf_E_19 rfl d_E_block_59 ?_
      refine xr_getr hx hb hT hown hK hP sX_18 rfl inR 3 (by decide) wf_E_129 rfl d_E_block_62 ?_
      refine lv_iload hx hb d_E_block_65 (lv_at hl 0 rfl) ?_
      obtain ⟨g7, hf⟩ := xgd_some hf
      refine xr_zald hx hb hK hP sX_22 g7 d_E_block_67 ?_
      refine lv_iload hx hb d_E_block_68 (lv_at hl 5 rfl) ?_
      refine lv_icmp_eq (tgt := 77) hx hb d_E_block_70 rfl (fun hc => ?_) (fun hc => ?_)
      · have hf := ite_t hc hf
        refine lv_iconst (v := 0) hx hb d_E_block_77 rfl ?_
        exact K78 v4 r5 0 M _ _ _  (lv_sub hl [1, 5, 0] rfl) hP hS hf
      · have hf := ite_f hc hf
        refine lv_iconst (v := 1) hx hb d_E_block_73 rfl ?_
        refine lv_goto (tgt := 78) hx hb d_E_block_74 rfl ?_
        exact K78 v4 r5 1 M _ _ _  (lv_sub hl [1, 5, 0] rfl) hP hS hf
    · have hf := ite_f hc hf
      exact no_some hf
  have K24 : ∀ (v1 v2 v3 v4 : Int32) (M : Mem) (H : Heap) (locs : List Loc) (ls : Array Slot), lv_has ls 7 [(0, .ref (ad 0)), (1, .int v1), (2, .int v2), (3, .int v3), (4, .int v4)] → va_P G kl (wd SX c3 ad M) H → va_S (adA SX ad) s.heap H locs → fE_block_24 v1 v2 v3 v4 M = some out → W p l e (rm0_ 2 44) s m args below meth c H locs 0 0 (MQ below (QW G kl SX c3 ad (some (.int out.1)) out.2) args s 0 0 (adA SX ad)) (F0 m 24 ls []) := by
    intro v1 v2 v3 v4 M H locs ls  hl hP hS hf
    unfold fE_block_24 at hf
    refine lv_iconst (v := 0) hx hb d_E_block_24 rfl ?_
    exact K25 v1 v2 v3 v4 0 M _ _ _  hl hP hS hf
  unfold fE_block at hf
  refine lv_iload_n hx hb d_E_block_0 rfl (lv_at hl 1 rfl) ?_
  obtain ⟨r8, hr8, hf⟩ := xbd_some hf
  refine xc_rs (rest := []) F hT hK hP (tE_isRoom l G c3 ad M a1 r8 hr8) wl_E_103 ws_E_isRoom wn_E wc_E_isRoom ck_E_isRoom ⟨rfl, rfl⟩ ⟨by decide, by decide⟩ ⟨Nat.le_refl _, Nat.le_refl _⟩ hl.1 rfl (Nat.le_of_ble_eq_true rfl) d_E_block_1 ?_
  refine lv_if_eq (tgt := 24) hx hb d_E_block_4 rfl (fun hc => ?_) (fun hc => ?_)
  · have hf := ite_t hc hf
    exact K24 a1 a2 a3 a4 M _ _ _  hl hP hS hf
  · have hf := ite_f hc hf
    refine lv_aload_n hx hb d_E_block_7 rfl (lv_at hl 0 rfl) ?_
    refine xr_getr hx hb hT hown hK hP sX_0 rfl inE 1 (by decide) wf_E_19 rfl d_E_block_8 ?_
    refine lv_iload_n hx hb d_E_block_11 rfl (lv_at hl 1 rfl) ?_
    refine lv_iload_n hx hb d_E_block_12 rfl (lv_at hl 2 rfl) ?_
    refine lv_iload_n hx hb d_E_block_13 rfl (lv_at hl 3 rfl) ?_
    obtain ⟨r9, hr9, hf⟩ := xbd_some hf
    refine xc_rv (rest := []) F hT hK hP (tR_hasPlace l G c3 ad M a1 a2 a3 r9 hr9) sX_18 rfl wl_E_112 wi_R_hasPlace we_R_hasPlace wn_R wc_R_hasPlace ck_R_hasPlace ⟨rfl, rfl⟩ ⟨by decide, by decide⟩ ⟨Nat.le_refl _, Nat.le_refl _⟩ hl.1 rfl (Nat.le_of_ble_eq_true rfl) d_E_block_14 ?_
    refine lv_if_eq (tgt := 24) hx hb d_E_block_17 rfl (fun hc => ?_) (fun hc => ?_)
    · have hf := ite_t hc hf
      exact K24 a1 a2 a3 a4 M _ _ _  hl hP hS hf
    · have hf := ite_f hc hf
      refine lv_iconst (v := 1) hx hb d_E_block_20 rfl ?_
      refine lv_goto (tgt := 25) hx hb d_E_block_21 rfl ?_
      exact K25 a1 a2 a3 a4 1 M _ _ _  hl hP hS hf
noncomputable def fT_paperOf_39 (M : Mem) : Option (Int32) := some (-1)
noncomputable def fT_paperOf_33 (v1 v2 v3 : Int32) (M : Mem) : Option (((Int32) ⊕ (Int32)) ⊕ (Int32)) := xlt (v3 + 1) (fun x1 => some (.inr x1))
noncomputable def gT_paperOf_2 (v1 v2 : Int32) (M : Mem) (v3 : Int32) : Option (((Int32) ⊕ (Int32)) ⊕ (Int32)) := if 9 ≤ v3 then (some (.inl (.inr v3))) else (xgd (vp_in v3 9) (if (M 11 v3.toNatClampNeg) = v2 then (xgd (vp_in v1 40) (xbd (fE_has (M 4 v1.toNatClampNeg) v3) (fun r4 => if r4 = 0 then (fT_paperOf_33 v1 v2 v3 M) else (some (.inl (.inl v3)))))) else (fT_paperOf_33 v1 v2 v3 M)))
noncomputable def bT_paperOf_2 (v1 v2 : Int32) (M : Mem) : Int32 → Option (((Int32) ⊕ (Int32)) ⊕ (Int32)) := fun st => gT_paperOf_2 v1 v2 M st
noncomputable def fT_paperOf (a1 a2 : Int32) (M : Mem) : Option (Int32) := xbd (xlp (bT_paperOf_2 a1 a2 M) 0) (fun e2 => Sum.elim (fun r2 => some r2) (fun t2 => fT_paperOf_39  M) e2)
set_option maxHeartbeats 4000000 in
set_option maxRecDepth 100000 in
theorem tT_paperOf (l : Launch) (G : va_G) (c3 : ClassId × ClassId × ClassId) (ad : Nat → Nat) (M : Mem) (a1 a2 : Int32) (out : Int32) (hf : fT_paperOf a1 a2 M = some out) : RMet l yT_paperOf cT_paperOf 4 (some .int) (rm0_ 1 21) G kl SX c3 ad M [.ref (ad 1), .int a1, .int a2] out := by
  refine RMet.of (by decide +kernel) (Nat.le_of_ble_eq_true rfl) (fun p e s m args below meth c ls F hT hK hP hr hlk hl => ?_)
  have hx := F.1
  have hb := F.2.1
  have F : CallFix p m c cT_paperOf 4 s args gw RT := F
  have hown := F.2.2.2.1
  have hl : lv_has ls 4 [(0, .ref (ad 1)), (1, .int a1), (2, .int a2)] := hl
  have K39 : ∀ (ls : Array Slot), lv_has ls 4 [] → fT_paperOf_39  M = some out → W p l e (rm0_ 1 21) s m args below meth c s.heap [] 0 0 (MQ below (QcRead out) args s 0 0 (fun _ => False)) (F0 m 39 ls []) := by
    intro  ls  hl hf
    unfold fT_paperOf_39 at hf
    refine lv_iconst (v := (-1)) hx hb d_T_paperOf_39 rfl ?_
    exact xr_iret hx hb hr hlk (Option.some.inj hf) d_T_paperOf_40
  unfold fT_paperOf at hf
  refine lv_iconst (v := 0) hx hb d_T_paperOf_0 rfl ?_
  refine lv_istore_n (lv' := [(3, .int 0), (0, .ref (ad 1)), (1, .int a1), (2, .int a2)]) hx hb d_T_paperOf_1 rfl hl (by decide) rfl (fun ls hl => ?_)
  obtain ⟨e2, he2, hk2⟩ := xbd_some hf
  obtain ⟨n2, hq2⟩ := xlp_n he2
  have LH2 : ∀ (n : Nat) (v3 : Int32) (ls : Array Slot), lv_has ls 4 [(0, .ref (ad 1)), (1, .int a1), (2, .int a2), (3, .int v3)] → xwh (bT_paperOf_2 a1 a2 M) n v3 = some e2 → W p l e (rm0_ 1 21) s m args below meth c s.heap [] 0 0 (MQ below (QcRead out) args s 0 0 (fun _ => False)) (F0 m 2 ls []) := by
    intro n
    induction n with
    | zero =>
      intro v3 ls hl hn
      exact xwh_0 hn
    | succ n ih2 =>
      intro v3 ls hl hn2
      obtain ⟨o2, hf, hn2⟩ := xwh_s hn2
      have hf : gT_paperOf_2 a1 a2 M v3 = some o2 := hf
      have K33 : ∀ (v3 : Int32) (ls : Array Slot), lv_has ls 4 [(0, .ref (ad 1)), (1, .int a1), (2, .int a2), (3, .int v3)] → fT_paperOf_33 a1 a2 v3 M = some o2 → W p l e (rm0_ 1 21) s m args below meth c s.heap [] 0 0 (MQ below (QcRead out) args s 0 0 (fun _ => False)) (F0 m 33 ls []) := by
        intro v3 ls  hl hf
        unfold fT_paperOf_33 at hf
        obtain ⟨x1, hx1, hf⟩ := xlt_some hf
        refine lv_iinc (k := 3) (lv' := [(3, .int x1), (0, .ref (ad 1)), (1, .int a1), (2, .int a2)]) hx hb d_T_paperOf_33 hl rfl hx1 (by decide) rfl (fun ls hl => ?_)
        refine lv_goto (tgt := 2) hx hb d_T_paperOf_36 rfl ?_
        exact ih2 x1 _ (lv_sub hl [1, 2, 3, 0] rfl) (xw_again hf hn2)
      unfold gT_paperOf_2 at hf
      refine lv_iload_n hx hb d_T_paperOf_2 rfl (lv_at hl 3 rfl) ?_
      refine lv_bipush (v := 9) hx hb d_T_paperOf_3 rfl ?_
      refine lv_icmp_ge (tgt := 39) hx hb d_T_paperOf_5 rfl (fun hc => ?_) (fun hc => ?_)
      · have hf := ite_t hc hf
        have he := xw_exit hf hn2
        subst he
        have hf := hk2
        exact K39  _  (lv_sub hl [] rfl) hf
      · have hf := ite_f hc hf
        refine lv_aload_n hx hb d_T_paperOf_8 rfl (lv_at hl 0 rfl) ?_
        refine xr_getr hx hb hT hown hK hP sX_1 rfl inT 6 (by decide) wf_T_33 rfl d_T_paperOf_9 ?_
        refine lv_iload_n hx hb d_T_paperOf_12 rfl (lv_at hl 3 rfl) ?_
        obtain ⟨g2, hf⟩ := xgd_some hf
        refine xr_iald hx hb hK hP sX_11 g2 d_T_paperOf_13 ?_
        refine lv_iload_n hx hb d_T_paperOf_14 rfl (lv_at hl 2 rfl) ?_
        refine lv_icmp_ne (tgt := 33) hx hb d_T_paperOf_15 rfl (fun hc => ?_) (fun hc => ?_)
        · have hf := ite_f hc hf
          exact K33 v3 _  hl hf
        · have hf := ite_t hc hf
          refine lv_aload_n hx hb d_T_paperOf_18 rfl (lv_at hl 0 rfl) ?_
          refine xr_getr hx hb hT hown hK hP sX_1 rfl inT 2 (by decide) wf_T_18 rfl d_T_paperOf_19 ?_
          refine lv_iload_n hx hb d_T_paperOf_22 rfl (lv_at hl 1 rfl) ?_
          obtain ⟨g3, hf⟩ := xgd_some hf
          refine xr_iald hx hb hK hP sX_4 g3 d_T_paperOf_23 ?_
          refine lv_iload_n hx hb d_T_paperOf_24 rfl (lv_at hl 3 rfl) ?_
          obtain ⟨r4, hr4, hf⟩ := xbd_some hf
          refine xc_rn (rest := []) F hT hK hP (tE_has l G c3 ad M (M 4 a1.toNatClampNeg) v3 r4 hr4) wm_T_57 ws_E_has wn_E wc_E_has ck_E_has ⟨rfl, rfl⟩ ⟨by decide, by decide⟩ ⟨Nat.le_refl _, Nat.le_refl _⟩ hl.1 rfl (Nat.le_of_ble_eq_true rfl) d_T_paperOf_25 ?_
          refine lv_if_eq (tgt := 33) hx hb d_T_paperOf_28 rfl (fun hc => ?_) (fun hc => ?_)
          · have hf := ite_t hc hf
            exact K33 v3 _  hl hf
          · have hf := ite_f hc hf
            refine lv_iload_n hx hb d_T_paperOf_31 rfl (lv_at hl 3 rfl) ?_
            have he := xw_exit hf hn2
            subst he
            have hf := hk2
            exact xr_iret hx hb hr hlk (Option.some.inj hf) d_T_paperOf_32
  exact LH2 n2 0 _ (lv_sub hl [1, 2, 3, 0] rfl) hq2
noncomputable def fR_isWritten_35 (s35_0 : Int32) (M : Mem) : Option (Int32) := xgd (s35_0 = 0 ∨ s35_0 = 1) (some s35_0)
noncomputable def fR_isWritten_34 (M : Mem) : Option (Int32) := fR_isWritten_35 0 M
noncomputable def fR_isWritten (a1 a2 a3 a4 a5 : Int32) (M : Mem) : Option (Int32) := xbd (fR_hasPlace a2 a3 a4 M) (fun r2 => if r2 = 0 then (fR_isWritten_34  M) else (xgd (vp_in a1 6) (xbd (fE_placeAt a2 a3 a4) (fun r4 => xgd (vp_in r4 144) (if (M (30 + 1 + a1.toNatClampNeg) r4.toNatClampNeg) = a5 then (fR_isWritten_35 1 M) else (fR_isWritten_34  M))))))
set_option maxHeartbeats 4000000 in
set_option maxRecDepth 100000 in
theorem tR_isWritten (l : Launch) (G : va_G) (c3 : ClassId × ClassId × ClassId) (ad : Nat → Nat) (M : Mem) (a1 a2 a3 a4 a5 : Int32) (out : Int32) (hf : fR_isWritten a1 a2 a3 a4 a5 M = some out) : RMet l yR_isWritten cR_isWritten 6 (some .boolean) (rm0_ 2 44) G kl SX c3 ad M [.ref (ad 18), .int a1, .int a2, .int a3, .int a4, .int a5] out := by
  refine RMet.of (by decide +kernel) (Nat.le_of_ble_eq_true rfl) (fun p e s m args below meth c ls F hT hK hP hr hlk hl => ?_)
  have hx := F.1
  have hb := F.2.1
  have F : CallFix p m c cR_isWritten 6 s args gw RR := F
  have hown := F.2.2.2.1
  have hl : lv_has ls 6 [(0, .ref (ad 18)), (1, .int a1), (2, .int a2), (3, .int a3), (4, .int a4), (5, .int a5)] := hl
  have K35 : ∀ (s35_0 : Int32) (ls : Array Slot), lv_has ls 6 [] → fR_isWritten_35 s35_0 M = some out → W p l e (rm0_ 2 44) s m args below meth c s.heap [] 0 0 (MQ below (QcRead out) args s 0 0 (fun _ => False)) (F0 m 35 ls [.int s35_0]) := by
    intro s35_0 ls  hl hf
    unfold fR_isWritten_35 at hf
    obtain ⟨z1, hf⟩ := xgd_some hf
    exact xr_zret hx hb hr hlk z1 (Option.some.inj hf) d_R_isWritten_35
  have K34 : ∀ (ls : Array Slot), lv_has ls 6 [] → fR_isWritten_34  M = some out → W p l e (rm0_ 2 44) s m args below meth c s.heap [] 0 0 (MQ below (QcRead out) args s 0 0 (fun _ => False)) (F0 m 34 ls []) := by
    intro  ls  hl hf
    unfold fR_isWritten_34 at hf
    refine lv_iconst (v := 0) hx hb d_R_isWritten_34 rfl ?_
    exact K35 0 _  hl hf
  unfold fR_isWritten at hf
  refine lv_aload_n hx hb d_R_isWritten_0 rfl (lv_at hl 0 rfl) ?_
  refine lv_iload_n hx hb d_R_isWritten_1 rfl (lv_at hl 2 rfl) ?_
  refine lv_iload_n hx hb d_R_isWritten_2 rfl (lv_at hl 3 rfl) ?_
  refine lv_iload hx hb d_R_isWritten_3 (lv_at hl 4 rfl) ?_
  obtain ⟨r2, hr2, hf⟩ := xbd_some hf
  refine xc_rv (rest := []) F hT hK hP (tR_hasPlace l G c3 ad M a2 a3 a4 r2 hr2) sX_18 rfl wl_R_64 wi_R_hasPlace we_R_hasPlace wn_R wc_R_hasPlace ck_R_hasPlace ⟨rfl, rfl⟩ ⟨by decide, by decide⟩ ⟨Nat.le_refl _, Nat.le_refl _⟩ hl.1 rfl (Nat.le_of_ble_eq_true rfl) d_R_isWritten_5 ?_
  refine lv_if_eq (tgt := 34) hx hb d_R_isWritten_8 rfl (fun hc => ?_) (fun hc => ?_)
  · have hf := ite_t hc hf
    exact K34  _  (lv_sub hl [] rfl) hf
  · have hf := ite_f hc hf
    refine lv_aload_n hx hb d_R_isWritten_11 rfl (lv_at hl 0 rfl) ?_
    refine xr_getr hx hb hT hown hK hP sX_18 rfl inR 5 (by decide) wf_R_30 rfl d_R_isWritten_12 ?_
    refine lv_iload_n hx hb d_R_isWritten_15 rfl (lv_at hl 1 rfl) ?_
    obtain ⟨g3, hf⟩ := xgd_some hf
    refine xr_aald hx hb hK hP sX_30 g3 d_R_isWritten_16 ?_
    refine lv_iload_n hx hb d_R_isWritten_17 rfl (lv_at hl 2 rfl) ?_
    refine lv_iload_n hx hb d_R_isWritten_18 rfl (lv_at hl 3 rfl) ?_
    refine lv_iload hx hb d_R_isWritten_19 (lv_at hl 4 rfl) ?_
    obtain ⟨r4, hr4, hf⟩ := xbd_some hf
    refine xc_rn (rest := [.ref (ad (30 + 1 + a1.toNatClampNeg))]) F hT hK hP (tE_placeAt l G c3 ad M a2 a3 a4 r4 hr4) wm_R_54 ws_E_placeAt wn_E wc_E_placeAt ck_E_placeAt ⟨rfl, rfl⟩ ⟨by decide, by decide⟩ ⟨Nat.le_refl _, Nat.le_refl _⟩ hl.1 rfl (Nat.le_of_ble_eq_true rfl) d_R_isWritten_21 ?_
    obtain ⟨g5, hf⟩ := xgd_some hf
    refine xr_iald hx hb hK hP (sX_r30 g3) g5 d_R_isWritten_24 ?_
    refine lv_iload hx hb d_R_isWritten_25 (lv_at hl 5 rfl) ?_
    refine lv_icmp_ne (tgt := 34) hx hb d_R_isWritten_27 rfl (fun hc => ?_) (fun hc => ?_)
    · have hf := ite_f hc hf
      exact K34  _  (lv_sub hl [] rfl) hf
    · have hf := ite_t hc hf
      refine lv_iconst (v := 1) hx hb d_R_isWritten_30 rfl ?_
      refine lv_goto (tgt := 35) hx hb d_R_isWritten_31 rfl ?_
      exact K35 1 _  (lv_sub hl [] rfl) hf
noncomputable def fR_hasNeighbour_69 (s69_0 : Int32) (M : Mem) : Option (Int32) := xgd (s69_0 = 0 ∨ s69_0 = 1) (some s69_0)
noncomputable def fR_hasNeighbour_64 (M : Mem) : Option (Int32) := fR_hasNeighbour_69 1 M
noncomputable def fR_hasNeighbour (a1 a2 a3 a4 a5 : Int32) (M : Mem) : Option (Int32) := xbd (fR_isWritten a1 a2 a3 (a4 - 1) a5 M) (fun r2 => if r2 = 0 then (xbd (fR_isWritten a1 a2 a3 (a4 + 1) a5 M) (fun r3 => if r3 = 0 then (xbd (fR_isWritten a1 a2 (a3 - 1) a4 a5 M) (fun r4 => if r4 = 0 then (xbd (fR_isWritten a1 a2 (a3 + 1) a4 a5 M) (fun r5 => if r5 = 0 then (fR_hasNeighbour_69 0 M) else (fR_hasNeighbour_64  M))) else (fR_hasNeighbour_64  M))) else (fR_hasNeighbour_64  M))) else (fR_hasNeighbour_64  M))
set_option maxHeartbeats 4000000 in
set_option maxRecDepth 100000 in
theorem tR_hasNeighbour (l : Launch) (G : va_G) (c3 : ClassId × ClassId × ClassId) (ad : Nat → Nat) (M : Mem) (a1 a2 a3 a4 a5 : Int32) (out : Int32) (hf : fR_hasNeighbour a1 a2 a3 a4 a5 M = some out) : RMet l yR_hasNeighbour cR_hasNeighbour 6 (some .boolean) (rm0_ 3 69) G kl SX c3 ad M [.ref (ad 18), .int a1, .int a2, .int a3, .int a4, .int a5] out := by
  refine RMet.of (by decide +kernel) (Nat.le_of_ble_eq_true rfl) (fun p e s m args below meth c ls F hT hK hP hr hlk hl => ?_)
  have hx := F.1
  have hb := F.2.1
  have F : CallFix p m c cR_hasNeighbour 6 s args gw RR := F
  have hown := F.2.2.2.1
  have hl : lv_has ls 6 [(0, .ref (ad 18)), (1, .int a1), (2, .int a2), (3, .int a3), (4, .int a4), (5, .int a5)] := hl
  have K69 : ∀ (s69_0 : Int32) (ls : Array Slot), lv_has ls 6 [] → fR_hasNeighbour_69 s69_0 M = some out → W p l e (rm0_ 3 69) s m args below meth c s.heap [] 0 0 (MQ below (QcRead out) args s 0 0 (fun _ => False)) (F0 m 69 ls [.int s69_0]) := by
    intro s69_0 ls  hl hf
    unfold fR_hasNeighbour_69 at hf
    obtain ⟨z1, hf⟩ := xgd_some hf
    exact xr_zret hx hb hr hlk z1 (Option.some.inj hf) d_R_hasNeighbour_69
  have K64 : ∀ (ls : Array Slot), lv_has ls 6 [] → fR_hasNeighbour_64  M = some out → W p l e (rm0_ 3 69) s m args below meth c s.heap [] 0 0 (MQ below (QcRead out) args s 0 0 (fun _ => False)) (F0 m 64 ls []) := by
    intro  ls  hl hf
    unfold fR_hasNeighbour_64 at hf
    refine lv_iconst (v := 1) hx hb d_R_hasNeighbour_64 rfl ?_
    refine lv_goto (tgt := 69) hx hb d_R_hasNeighbour_65 rfl ?_
    exact K69 1 _  hl hf
  unfold fR_hasNeighbour at hf
  refine lv_aload_n hx hb d_R_hasNeighbour_0 rfl (lv_at hl 0 rfl) ?_
  refine lv_iload_n hx hb d_R_hasNeighbour_1 rfl (lv_at hl 1 rfl) ?_
  refine lv_iload_n hx hb d_R_hasNeighbour_2 rfl (lv_at hl 2 rfl) ?_
  refine lv_iload_n hx hb d_R_hasNeighbour_3 rfl (lv_at hl 3 rfl) ?_
  refine lv_iload hx hb d_R_hasNeighbour_4 (lv_at hl 4 rfl) ?_
  refine lv_iconst (v := 1) hx hb d_R_hasNeighbour_6 rfl ?_
  refine lv_isub hx hb d_R_hasNeighbour_7 ?_
  refine lv_iload hx hb d_R_hasNeighbour_8 (lv_at hl 5 rfl) ?_
  obtain ⟨r2, hr2, hf⟩ := xbd_some hf
  refine xc_rv (rest := []) F hT hK hP (tR_isWritten l G c3 ad M a1 a2 a3 (a4 - 1) a5 r2 hr2) sX_18 rfl wl_R_61 wi_R_isWritten we_R_isWritten wn_R wc_R_isWritten ck_R_isWritten ⟨rfl, rfl⟩ ⟨by decide, by decide⟩ ⟨Nat.le_refl _, Nat.le_refl _⟩ hl.1 rfl (Nat.le_of_ble_eq_true rfl) d_R_hasNeighbour_10 ?_
  refine lv_if_ne (tgt := 64) hx hb d_R_hasNeighbour_13 rfl (fun hc => ?_) (fun hc => ?_)
  · have hf := ite_f hc hf
    exact K64  _  (lv_sub hl [] rfl) hf
  · have hf := ite_t hc hf
    refine lv_aload_n hx hb d_R_hasNeighbour_16 rfl (lv_at hl 0 rfl) ?_
    refine lv_iload_n hx hb d_R_hasNeighbour_17 rfl (lv_at hl 1 rfl) ?_
    refine lv_iload_n hx hb d_R_hasNeighbour_18 rfl (lv_at hl 2 rfl) ?_
    refine lv_iload_n hx hb d_R_hasNeighbour_19 rfl (lv_at hl 3 rfl) ?_
    refine lv_iload hx hb d_R_hasNeighbour_20 (lv_at hl 4 rfl) ?_
    refine lv_iconst (v := 1) hx hb d_R_hasNeighbour_22 rfl ?_
    refine lv_iadd hx hb d_R_hasNeighbour_23 ?_
    refine lv_iload hx hb d_R_hasNeighbour_24 (lv_at hl 5 rfl) ?_
    obtain ⟨r3, hr3, hf⟩ := xbd_some hf
    refine xc_rv (rest := []) F hT hK hP (tR_isWritten l G c3 ad M a1 a2 a3 (a4 + 1) a5 r3 hr3) sX_18 rfl wl_R_61 wi_R_isWritten we_R_isWritten wn_R wc_R_isWritten ck_R_isWritten ⟨rfl, rfl⟩ ⟨by decide, by decide⟩ ⟨Nat.le_refl _, Nat.le_refl _⟩ hl.1 rfl (Nat.le_of_ble_eq_true rfl) d_R_hasNeighbour_26 ?_
    refine lv_if_ne (tgt := 64) hx hb d_R_hasNeighbour_29 rfl (fun hc => ?_) (fun hc => ?_)
    · have hf := ite_f hc hf
      exact K64  _  (lv_sub hl [] rfl) hf
    · have hf := ite_t hc hf
      refine lv_aload_n hx hb d_R_hasNeighbour_32 rfl (lv_at hl 0 rfl) ?_
      refine lv_iload_n hx hb d_R_hasNeighbour_33 rfl (lv_at hl 1 rfl) ?_
      refine lv_iload_n hx hb d_R_hasNeighbour_34 rfl (lv_at hl 2 rfl) ?_
      refine lv_iload_n hx hb d_R_hasNeighbour_35 rfl (lv_at hl 3 rfl) ?_
      refine lv_iconst (v := 1) hx hb d_R_hasNeighbour_36 rfl ?_
      refine lv_isub hx hb d_R_hasNeighbour_37 ?_
      refine lv_iload hx hb d_R_hasNeighbour_38 (lv_at hl 4 rfl) ?_
      refine lv_iload hx hb d_R_hasNeighbour_40 (lv_at hl 5 rfl) ?_
      obtain ⟨r4, hr4, hf⟩ := xbd_some hf
      refine xc_rv (rest := []) F hT hK hP (tR_isWritten l G c3 ad M a1 a2 (a3 - 1) a4 a5 r4 hr4) sX_18 rfl wl_R_61 wi_R_isWritten we_R_isWritten wn_R wc_R_isWritten ck_R_isWritten ⟨rfl, rfl⟩ ⟨by decide, by decide⟩ ⟨Nat.le_refl _, Nat.le_refl _⟩ hl.1 rfl (Nat.le_of_ble_eq_true rfl) d_R_hasNeighbour_42 ?_
      refine lv_if_ne (tgt := 64) hx hb d_R_hasNeighbour_45 rfl (fun hc => ?_) (fun hc => ?_)
      · have hf := ite_f hc hf
        exact K64  _  (lv_sub hl [] rfl) hf
      · have hf := ite_t hc hf
        refine lv_aload_n hx hb d_R_hasNeighbour_48 rfl (lv_at hl 0 rfl) ?_
        refine lv_iload_n hx hb d_R_hasNeighbour_49 rfl (lv_at hl 1 rfl) ?_
        refine lv_iload_n hx hb d_R_hasNeighbour_50 rfl (lv_at hl 2 rfl) ?_
        refine lv_iload_n hx hb d_R_hasNeighbour_51 rfl (lv_at hl 3 rfl) ?_
        refine lv_iconst (v := 1) hx hb d_R_hasNeighbour_52 rfl ?_
        refine lv_iadd hx hb d_R_hasNeighbour_53 ?_
        refine lv_iload hx hb d_R_hasNeighbour_54 (lv_at hl 4 rfl) ?_
        refine lv_iload hx hb d_R_hasNeighbour_56 (lv_at hl 5 rfl) ?_
        obtain ⟨r5, hr5, hf⟩ := xbd_some hf
        refine xc_rv (rest := []) F hT hK hP (tR_isWritten l G c3 ad M a1 a2 (a3 + 1) a4 a5 r5 hr5) sX_18 rfl wl_R_61 wi_R_isWritten we_R_isWritten wn_R wc_R_isWritten ck_R_isWritten ⟨rfl, rfl⟩ ⟨by decide, by decide⟩ ⟨Nat.le_refl _, Nat.le_refl _⟩ hl.1 rfl (Nat.le_of_ble_eq_true rfl) d_R_hasNeighbour_58 ?_
        refine lv_if_eq (tgt := 68) hx hb d_R_hasNeighbour_61 rfl (fun hc => ?_) (fun hc => ?_)
        · have hf := ite_t hc hf
          refine lv_iconst (v := 0) hx hb d_R_hasNeighbour_68 rfl ?_
          exact K69 0 _  (lv_sub hl [] rfl) hf
        · have hf := ite_f hc hf
          exact K64  _  (lv_sub hl [] rfl) hf
noncomputable def fR_firstPlace_90 (M : Mem) : Option (Int32) := some (-1)
noncomputable def fR_firstPlace_84 (v1 v2 v3 v4 : Int32) (M : Mem) : Option (((Int32) ⊕ (Int32)) ⊕ (Int32)) := xlt (v4 + 1) (fun x1 => some (.inr x1))
noncomputable def fR_firstPlace_78 (v1 v2 v3 v4 v5 : Int32) (M : Mem) : Option (((Int32) ⊕ (Int32)) ⊕ (Int32)) := xlt (v5 + 1) (fun x2 => some (.inr x2))
noncomputable def gR_firstPlace_17 (v1 v2 v3 v4 : Int32) (M : Mem) (v5 : Int32) : Option (((Int32) ⊕ (Int32)) ⊕ (Int32)) := xgd (vp_in v2 4) (if (M 20 v2.toNatClampNeg) ≤ v5 then (some (.inl (.inr v5))) else (xbd (fE_placeAt v2 v4 v5) (fun r4 => xgd (vp_in r4 144) (if (M 22 r4.toNatClampNeg) = 0 then (xgd (vp_in v1 6) (xgd (vp_in r4 144) (if (M (23 + 1 + v1.toNatClampNeg) r4.toNatClampNeg) = (-1) then (xbd (fR_hasNeighbour v1 v2 v4 v5 v3 M) (fun r8 => if r8 = 0 then (some (.inl (.inl r4))) else (fR_firstPlace_78 v1 v2 v3 v4 v5 M))) else (fR_firstPlace_78 v1 v2 v3 v4 v5 M)))) else (fR_firstPlace_78 v1 v2 v3 v4 v5 M)))))
noncomputable def bR_firstPlace_17 (v1 v2 v3 v4 : Int32) (M : Mem) : Int32 → Option (((Int32) ⊕ (Int32)) ⊕ (Int32)) := fun st => gR_firstPlace_17 v1 v2 v3 v4 M st
noncomputable def gR_firstPlace_3 (v1 v2 v3 : Int32) (M : Mem) (v4 : Int32) : Option (((Int32) ⊕ (Int32)) ⊕ (Int32)) := xgd (vp_in v2 4) (if (M 19 v2.toNatClampNeg) ≤ v4 then (some (.inl (.inr v4))) else (xbd (xlp (bR_firstPlace_17 v1 v2 v3 v4 M) 0) (fun e17 => Sum.elim (fun r17 => some (.inl (.inl r17))) (fun t17 => fR_firstPlace_84 v1 v2 v3 v4 M) e17)))
noncomputable def bR_firstPlace_3 (v1 v2 v3 : Int32) (M : Mem) : Int32 → Option (((Int32) ⊕ (Int32)) ⊕ (Int32)) := fun st => gR_firstPlace_3 v1 v2 v3 M st
noncomputable def fR_firstPlace (a1 a2 a3 : Int32) (M : Mem) : Option (Int32) := xbd (xlp (bR_firstPlace_3 a1 a2 a3 M) 0) (fun e3 => Sum.elim (fun r3 => some r3) (fun t3 => fR_firstPlace_90  M) e3)
set_option maxHeartbeats 4000000 in
set_option maxRecDepth 100000 in
theorem tR_firstPlace (l : Launch) (G : va_G) (c3 : ClassId × ClassId × ClassId) (ad : Nat → Nat) (M : Mem) (a1 a2 a3 : Int32) (out : Int32) (hf : fR_firstPlace a1 a2 a3 M = some out) : RMet l yR_firstPlace cR_firstPlace 7 (some .int) (rm0_ 4 94) G kl SX c3 ad M [.ref (ad 18), .int a1, .int a2, .int a3] out := by
  refine RMet.of (by decide +kernel) (Nat.le_of_ble_eq_true rfl) (fun p e s m args below meth c ls F hT hK hP hr hlk hl => ?_)
  have hx := F.1
  have hb := F.2.1
  have F : CallFix p m c cR_firstPlace 7 s args gw RR := F
  have hown := F.2.2.2.1
  have hl : lv_has ls 7 [(0, .ref (ad 18)), (1, .int a1), (2, .int a2), (3, .int a3)] := hl
  have K90 : ∀ (ls : Array Slot), lv_has ls 7 [] → fR_firstPlace_90  M = some out → W p l e (rm0_ 4 94) s m args below meth c s.heap [] 0 0 (MQ below (QcRead out) args s 0 0 (fun _ => False)) (F0 m 90 ls []) := by
    intro  ls  hl hf
    unfold fR_firstPlace_90 at hf
    refine lv_iconst (v := (-1)) hx hb d_R_firstPlace_90 rfl ?_
    exact xr_iret hx hb hr hlk (Option.some.inj hf) d_R_firstPlace_91
  unfold fR_firstPlace at hf
  refine lv_iconst (v := 0) hx hb d_R_firstPlace_0 rfl ?_
  refine lv_istore (lv' := [(4, .int 0), (0, .ref (ad 18)), (1, .int a1), (2, .int a2), (3, .int a3)]) hx hb d_R_firstPlace_1 hl (by decide) rfl (fun ls hl => ?_)
  obtain ⟨e3, he3, hk3⟩ := xbd_some hf
  obtain ⟨n3, hq3⟩ := xlp_n he3
  have LH3 : ∀ (n : Nat) (v4 : Int32) (ls : Array Slot), lv_has ls 7 [(0, .ref (ad 18)), (1, .int a1), (2, .int a2), (3, .int a3), (4, .int v4)] → xwh (bR_firstPlace_3 a1 a2 a3 M) n v4 = some e3 → W p l e (rm0_ 4 94) s m args below meth c s.heap [] 0 0 (MQ below (QcRead out) args s 0 0 (fun _ => False)) (F0 m 3 ls []) := by
    intro n
    induction n with
    | zero =>
      intro v4 ls hl hn
      exact xwh_0 hn
    | succ n ih3 =>
      intro v4 ls hl hn3
      obtain ⟨o3, hf, hn3⟩ := xwh_s hn3
      have hf : gR_firstPlace_3 a1 a2 a3 M v4 = some o3 := hf
      have K84 : ∀ (v4 : Int32) (ls : Array Slot), lv_has ls 7 [(0, .ref (ad 18)), (1, .int a1), (2, .int a2), (3, .int a3), (4, .int v4)] → fR_firstPlace_84 a1 a2 a3 v4 M = some o3 → W p l e (rm0_ 4 94) s m args below meth c s.heap [] 0 0 (MQ below (QcRead out) args s 0 0 (fun _ => False)) (F0 m 84 ls []) := by
        intro v4 ls  hl hf
        unfold fR_firstPlace_84 at hf
        obtain ⟨x1, hx1, hf⟩ := xlt_some hf
        refine lv_iinc (k := 4) (lv' := [(4, .int x1), (0, .ref (ad 18)), (1, .int a1), (2, .int a2), (3, .int a3)]) hx hb d_R_firstPlace_84 hl rfl hx1 (by decide) rfl (fun ls hl => ?_)
        refine lv_goto (tgt := 3) hx hb d_R_firstPlace_87 rfl ?_
        exact ih3 x1 _ (lv_sub hl [1, 2, 3, 4, 0] rfl) (xw_again hf hn3)
      unfold gR_firstPlace_3 at hf
      refine lv_iload hx hb d_R_firstPlace_3 (lv_at hl 4 rfl) ?_
      refine lv_aload_n hx hb d_R_firstPlace_5 rfl (lv_at hl 0 rfl) ?_
      refine xr_getr hx hb hT hown hK hP sX_18 rfl inR 0 (by decide) wf_R_9 rfl d_R_firstPlace_6 ?_
      refine lv_iload_n hx hb d_R_firstPlace_9 rfl (lv_at hl 2 rfl) ?_
      obtain ⟨g2, hf⟩ := xgd_some hf
      refine xr_iald hx hb hK hP sX_19 g2 d_R_firstPlace_10 ?_
      refine lv_icmp_ge (tgt := 90) hx hb d_R_firstPlace_11 rfl (fun hc => ?_) (fun hc => ?_)
      · have hf := ite_t hc hf
        have he := xw_exit hf hn3
        subst he
        have hf := hk3
        exact K90  _  (lv_sub hl [] rfl) hf
      · have hf := ite_f hc hf
        refine lv_iconst (v := 0) hx hb d_R_firstPlace_14 rfl ?_
        refine lv_istore (lv' := [(5, .int 0), (0, .ref (ad 18)), (1, .int a1), (2, .int a2), (3, .int a3), (4, .int v4)]) hx hb d_R_firstPlace_15 hl (by decide) rfl (fun ls hl => ?_)
        obtain ⟨e17, he17, hk17⟩ := xbd_some hf
        obtain ⟨n17, hq17⟩ := xlp_n he17
        have LH17 : ∀ (n : Nat) (v5 : Int32) (ls : Array Slot), lv_has ls 7 [(0, .ref (ad 18)), (1, .int a1), (2, .int a2), (3, .int a3), (4, .int v4), (5, .int v5)] → xwh (bR_firstPlace_17 a1 a2 a3 v4 M) n v5 = some e17 → W p l e (rm0_ 4 94) s m args below meth c s.heap [] 0 0 (MQ below (QcRead out) args s 0 0 (fun _ => False)) (F0 m 17 ls []) := by
          intro n
          induction n with
          | zero =>
            intro v5 ls hl hn
            exact xwh_0 hn
          | succ n ih17 =>
            intro v5 ls hl hn17
            obtain ⟨o17, hf, hn17⟩ := xwh_s hn17
            have hf : gR_firstPlace_17 a1 a2 a3 v4 M v5 = some o17 := hf
            have K78 : ∀ (v5 : Int32) (ls : Array Slot), lv_has ls 7 [(0, .ref (ad 18)), (1, .int a1), (2, .int a2), (3, .int a3), (4, .int v4), (5, .int v5)] → fR_firstPlace_78 a1 a2 a3 v4 v5 M = some o17 → W p l e (rm0_ 4 94) s m args below meth c s.heap [] 0 0 (MQ below (QcRead out) args s 0 0 (fun _ => False)) (F0 m 78 ls []) := by
              intro v5 ls  hl hf
              unfold fR_firstPlace_78 at hf
              obtain ⟨x3, hx3, hf⟩ := xlt_some hf
              refine lv_iinc (k := 5) (lv' := [(5, .int x3), (0, .ref (ad 18)), (1, .int a1), (2, .int a2), (3, .int a3), (4, .int v4)]) hx hb d_R_firstPlace_78 hl rfl hx3 (by decide) rfl (fun ls hl => ?_)
              refine lv_goto (tgt := 17) hx hb d_R_firstPlace_81 rfl ?_
              exact ih17 x3 _ (lv_sub hl [1, 2, 3, 4, 5, 0] rfl) (xw_again hf hn17)
            unfold gR_firstPlace_17 at hf
            refine lv_iload hx hb d_R_firstPlace_17 (lv_at hl 5 rfl) ?_
            refine lv_aload_n hx hb d_R_firstPlace_19 rfl (lv_at hl 0 rfl) ?_
            refine xr_getr hx hb hT hown hK hP sX_18 rfl inR 1 (by decide) wf_R_15 rfl d_R_firstPlace_20 ?_
            refine lv_iload_n hx hb d_R_firstPlace_23 rfl (lv_at hl 2 rfl) ?_
            obtain ⟨g4, hf⟩ := xgd_some hf
            refine xr_iald hx hb hK hP sX_20 g4 d_R_firstPlace_24 ?_
            refine lv_icmp_ge (tgt := 84) hx hb d_R_firstPlace_25 rfl (fun hc => ?_) (fun hc => ?_)
            · have hf := ite_t hc hf
              have he := xw_exit hf hn17
              subst he
              have hf := hk17
              exact K84 v4 _  (lv_sub hl [0, 1, 2, 3, 4] rfl) hf
            · have hf := ite_f hc hf
              refine lv_iload_n hx hb d_R_firstPlace_28 rfl (lv_at hl 2 rfl) ?_
              refine lv_iload hx hb d_R_firstPlace_29 (lv_at hl 4 rfl) ?_
              refine lv_iload hx hb d_R_firstPlace_31 (lv_at hl 5 rfl) ?_
              obtain ⟨r5, hr5, hf⟩ := xbd_some hf
              refine xc_rn (rest := []) F hT hK hP (tE_placeAt l G c3 ad M a2 v4 v5 r5 hr5) wm_R_54 ws_E_placeAt wn_E wc_E_placeAt ck_E_placeAt ⟨rfl, rfl⟩ ⟨by decide, by decide⟩ ⟨Nat.le_refl _, Nat.le_refl _⟩ hl.1 rfl (Nat.le_of_ble_eq_true rfl) d_R_firstPlace_33 ?_
              refine lv_istore (lv' := [(6, .int r5), (0, .ref (ad 18)), (1, .int a1), (2, .int a2), (3, .int a3), (4, .int v4), (5, .int v5)]) hx hb d_R_firstPlace_36 hl (by decide) rfl (fun ls hl => ?_)
              refine lv_aload_n hx hb d_R_firstPlace_38 rfl (lv_at hl 1 rfl) ?_
              refine xr_getr hx hb hT hown hK hP sX_18 rfl inR 3 (by decide) wf_R_22 rfl d_R_firstPlace_39 ?_
              refine lv_iload hx hb d_R_firstPlace_42 (lv_at hl 0 rfl) ?_
              obtain ⟨g6, hf⟩ := xgd_some hf
              refine xr_zald hx hb hK hP sX_22 g6 d_R_firstPlace_44 ?_
              refine lv_if_ne (tgt := 78) hx hb d_R_firstPlace_45 rfl (fun hc => ?_) (fun hc => ?_)
              · have hf := ite_f hc hf
                exact K78 v5 _  (lv_sub hl [1, 2, 3, 4, 5, 6] rfl) hf
              · have hf := ite_t hc hf
                refine lv_aload_n hx hb d_R_firstPlace_48 rfl (lv_at hl 1 rfl) ?_
                refine xr_getr hx hb hT hown hK hP sX_18 rfl inR 4 (by decide) wf_R_27 rfl d_R_firstPlace_49 ?_
                refine lv_iload_n hx hb d_R_firstPlace_52 rfl (lv_at hl 2 rfl) ?_
                obtain ⟨g7, hf⟩ := xgd_some hf
                refine xr_aald hx hb hK hP sX_23 g7 d_R_firstPlace_53 ?_
                refine lv_iload hx hb d_R_firstPlace_54 (lv_at hl 0 rfl) ?_
                obtain ⟨g8, hf⟩ := xgd_some hf
                refine xr_iald hx hb hK hP (sX_r23 g7) g8 d_R_firstPlace_56 ?_
                refine lv_iconst (v := (-1)) hx hb d_R_firstPlace_57 rfl ?_
                refine lv_icmp_ne (tgt := 78) hx hb d_R_firstPlace_58 rfl (fun hc => ?_) (fun hc => ?_)
                · have hf := ite_f hc hf
                  exact K78 v5 _  (lv_sub hl [1, 2, 3, 4, 5, 6] rfl) hf
                · have hf := ite_t hc hf
                  refine lv_aload_n hx hb d_R_firstPlace_61 rfl (lv_at hl 1 rfl) ?_
                  refine lv_iload_n hx hb d_R_firstPlace_62 rfl (lv_at hl 2 rfl) ?_
                  refine lv_iload_n hx hb d_R_firstPlace_63 rfl (lv_at hl 3 rfl) ?_
                  refine lv_iload hx hb d_R_firstPlace_64 (lv_at hl 5 rfl) ?_
                  refine lv_iload hx hb d_R_firstPlace_66 (lv_at hl 6 rfl) ?_
                  refine lv_iload_n hx hb d_R_firstPlace_68 rfl (lv_at hl 4 rfl) ?_
                  obtain ⟨r9, hr9, hf⟩ := xbd_some hf
                  refine xc_rv (rest := []) F hT hK hP (tR_hasNeighbour l G c3 ad M a1 a2 v4 v5 a3 r9 hr9) sX_18 rfl wl_R_57 wi_R_hasNeighbour we_R_hasNeighbour wn_R wc_R_hasNeighbour ck_R_hasNeighbour ⟨rfl, rfl⟩ ⟨by decide, by decide⟩ ⟨Nat.le_refl _, Nat.le_refl _⟩ hl.1 rfl (Nat.le_of_ble_eq_true rfl) d_R_firstPlace_69 ?_
                  refine lv_if_ne (tgt := 78) hx hb d_R_firstPlace_72 rfl (fun hc => ?_) (fun hc => ?_)
                  · have hf := ite_f hc hf
                    exact K78 v5 _  (lv_sub hl [1, 2, 3, 4, 5, 6] rfl) hf
                  · have hf := ite_t hc hf
                    refine lv_iload hx hb d_R_firstPlace_75 (lv_at hl 0 rfl) ?_
                    have he := xw_exit hf hn17
                    subst he
                    have hf := hk17
                    have he := xw_exit hf hn3
                    subst he
                    have hf := hk3
                    exact xr_iret hx hb hr hlk (Option.some.inj hf) d_R_firstPlace_77
        exact LH17 n17 0 _ (lv_sub hl [1, 2, 3, 4, 5, 0] rfl) hq17
  exact LH3 n3 0 _ (lv_sub hl [1, 2, 3, 4, 0] rfl) hq3
noncomputable def fR_giveSeat_93 (M : Mem) : Option (Int32 × Mem) := xgd ((0 : Int32) = 0 ∨ (0 : Int32) = 1) (some (0, M))
noncomputable def fR_giveSeat_47 (v1 v2 v3 v4 v5 s47_0 : Int32) (M : Mem) : Option (((Int32 × Mem) ⊕ (Int32 × Mem)) ⊕ (Int32 × Mem)) := if s47_0 = (-1) then (xlt (v5 + 1) (fun x2 => some (.inr (x2, M)))) else (xgd (vp_in v1 6) (xgd (vp_in s47_0 144) (xlt (up2 M (23 + 1 + v1.toNatClampNeg) s47_0.toNatClampNeg v2) (fun M5 => xgd (vp_in v1 6) (xgd (vp_in s47_0 144) (xlt (up2 M5 (30 + 1 + v1.toNatClampNeg) s47_0.toNatClampNeg v3) (fun M8 => xgd (vp_in v1 6) (xgd (vp_in v2 40) (xlt (up2 M8 (37 + 1 + v1.toNatClampNeg) v2.toNatClampNeg s47_0) (fun M11 => xgd ((1 : Int32) = 0 ∨ (1 : Int32) = 1) (some (.inl (.inl (1, M11))))))))))))))
noncomputable def gR_giveSeat_17 (v1 v2 v3 v4 : Int32) (v5 : Int32) (M : Mem) : Option (((Int32 × Mem) ⊕ (Int32 × Mem)) ⊕ (Int32 × Mem)) := if 4 ≤ v5 then (some (.inl (.inr (v5, M)))) else (xgd (vp_in v5 4) (if (M 21 v5.toNatClampNeg) = v4 then (xbd (fR_firstPlace v1 v5 v3 M) (fun r14 => fR_giveSeat_47 v1 v2 v3 v4 v5 r14 M)) else (fR_giveSeat_47 v1 v2 v3 v4 v5 (-1) M)))
noncomputable def bR_giveSeat_17 (v1 v2 v3 v4 : Int32) : Int32 × Mem → Option (((Int32 × Mem) ⊕ (Int32 × Mem)) ⊕ (Int32 × Mem)) := fun st => gR_giveSeat_17 v1 v2 v3 v4 st.1 st.2
noncomputable def fR_giveSeat (a1 a2 a3 a4 : Int32) (M : Mem) : Option (Int32 × Mem) := xgd (vp_in a1 6) (xgd (vp_in a2 40) (if (M (37 + 1 + a1.toNatClampNeg) a2.toNatClampNeg) = (-1) then (xbd (xlp (bR_giveSeat_17 a1 a2 a3 a4) (0, M)) (fun e17 => Sum.elim (fun r17 => some r17) (fun t17 => fR_giveSeat_93  t17.2) e17)) else (xgd ((1 : Int32) = 0 ∨ (1 : Int32) = 1) (some (1, M)))))
set_option maxHeartbeats 4000000 in
set_option maxRecDepth 100000 in
theorem tR_giveSeat (l : Launch) (G : va_G) (c3 : ClassId × ClassId × ClassId) (ad : Nat → Nat) (hd : adI SX ad) (M : Mem) (a1 a2 a3 a4 : Int32) (o1 : Int32) (o2 : Mem) (hf : fR_giveSeat a1 a2 a3 a4 M = some (o1, o2)) : WMet l yR_giveSeat cR_giveSeat 7 (some .boolean) (rm0_ 5 120) G kl SX c3 ad M [.ref (ad 18), .int a1, .int a2, .int a3, .int a4] (some (.int o1)) o2 := by
  generalize hout : (o1, o2) = out at hf
  obtain rfl : out.1 = o1 := by rw [← hout]
  obtain rfl : out.2 = o2 := by rw [← hout]
  clear hout
  refine WMet.of (by decide +kernel) (Nat.le_of_ble_eq_true rfl) (fun p e s m args below meth c ls F hT hK hP hr hlk hl hS => ?_)
  have hx := F.1
  have hb := F.2.1
  have F : CallFix p m c cR_giveSeat 7 s args gw RR := F
  have hown := F.2.2.2.1
  have hl : lv_has ls 7 [(0, .ref (ad 18)), (1, .int a1), (2, .int a2), (3, .int a3), (4, .int a4)] := hl
  revert hP hS
  suffices hall : ∀ (H : Heap) (locs : List Loc), va_P G kl (wd SX c3 ad M) H → va_S (adA SX ad) s.heap H locs → W p l e (rm0_ 5 120) s m args below meth c H locs 0 0 (MQ below (QW G kl SX c3 ad (some (.int out.1)) out.2) args s 0 0 (adA SX ad)) (F0 m 0 ls []) from hall s.heap []
  intro H locs hP hS
  have K93 : ∀ (M : Mem) (H : Heap) (locs : List Loc) (ls : Array Slot), lv_has ls 7 [] → va_P G kl (wd SX c3 ad M) H → va_S (adA SX ad) s.heap H locs → fR_giveSeat_93  M = some out → W p l e (rm0_ 5 120) s m args below meth c H locs 0 0 (MQ below (QW G kl SX c3 ad (some (.int out.1)) out.2) args s 0 0 (adA SX ad)) (F0 m 93 ls []) := by
    intro  M H locs ls  hl hP hS hf
    unfold fR_giveSeat_93 at hf
    refine lv_iconst (v := 0) hx hb d_R_giveSeat_93 rfl ?_
    obtain ⟨z1, hf⟩ := xgd_some hf
    exact xw_zret hx hb hr hlk hP hS z1 (Option.some.inj hf) d_R_giveSeat_94
  unfold fR_giveSeat at hf
  refine lv_aload_n hx hb d_R_giveSeat_0 rfl (lv_at hl 0 rfl) ?_
  refine xr_getr hx hb hT hown hK hP sX_18 rfl inR 6 (by decide) wf_R_33 rfl d_R_giveSeat_1 ?_
  refine lv_iload_n hx hb d_R_giveSeat_4 rfl (lv_at hl 1 rfl) ?_
  obtain ⟨g2, hf⟩ := xgd_some hf
  refine xr_aald hx hb hK hP sX_37 g2 d_R_giveSeat_5 ?_
  refine lv_iload_n hx hb d_R_giveSeat_6 rfl (lv_at hl 2 rfl) ?_
  obtain ⟨g3, hf⟩ := xgd_some hf
  refine xr_iald hx hb hK hP (sX_r37 g2) g3 d_R_giveSeat_7 ?_
  refine lv_iconst (v := (-1)) hx hb d_R_giveSeat_8 rfl ?_
  refine lv_icmp_eq (tgt := 14) hx hb d_R_giveSeat_9 rfl (fun hc => ?_) (fun hc => ?_)
  · have hf := ite_t hc hf
    refine lv_iconst (v := 0) hx hb d_R_giveSeat_14 rfl ?_
    refine lv_istore (lv' := [(5, .int 0), (0, .ref (ad 18)), (1, .int a1), (2, .int a2), (3, .int a3), (4, .int a4)]) hx hb d_R_giveSeat_15 hl (by decide) rfl (fun ls hl => ?_)
    obtain ⟨e17, he17, hk17⟩ := xbd_some hf
    obtain ⟨n17, hq17⟩ := xlp_n he17
    have LH17 : ∀ (n : Nat) (v5 : Int32) (M : Mem) (H : Heap) (locs : List Loc) (ls : Array Slot), lv_has ls 7 [(0, .ref (ad 18)), (1, .int a1), (2, .int a2), (3, .int a3), (4, .int a4), (5, .int v5)] → va_P G kl (wd SX c3 ad M) H → va_S (adA SX ad) s.heap H locs → xwh (bR_giveSeat_17 a1 a2 a3 a4) n (v5, M) = some e17 → W p l e (rm0_ 5 120) s m args below meth c H locs 0 0 (MQ below (QW G kl SX c3 ad (some (.int out.1)) out.2) args s 0 0 (adA SX ad)) (F0 m 17 ls []) := by
      intro n
      induction n with
      | zero =>
        intro v5 M H locs ls hl hP hS hn
        exact xwh_0 hn
      | succ n ih17 =>
        intro v5 M H locs ls hl hP hS hn17
        obtain ⟨o17, hf, hn17⟩ := xwh_s hn17
        have hf : gR_giveSeat_17 a1 a2 a3 a4 v5 M = some o17 := hf
        have K47 : ∀ (v5 s47_0 : Int32) (M : Mem) (H : Heap) (locs : List Loc) (ls : Array Slot), lv_has ls 7 [(0, .ref (ad 18)), (1, .int a1), (2, .int a2), (3, .int a3), (4, .int a4), (5, .int v5)] → va_P G kl (wd SX c3 ad M) H → va_S (adA SX ad) s.heap H locs → fR_giveSeat_47 a1 a2 a3 a4 v5 s47_0 M = some o17 → W p l e (rm0_ 5 120) s m args below meth c H locs 0 0 (MQ below (QW G kl SX c3 ad (some (.int out.1)) out.2) args s 0 0 (adA SX ad)) (F0 m 47 ls [.int s47_0]) := by
          intro v5 s47_0 M H locs ls  hl hP hS hf
          unfold fR_giveSeat_47 at hf
          refine lv_istore (lv' := [(6, .int s47_0), (0, .ref (ad 18)), (1, .int a1), (2, .int a2), (3, .int a3), (4, .int a4), (5, .int v5)]) hx hb d_R_giveSeat_47 hl (by decide) rfl (fun ls hl => ?_)
          refine lv_iload hx hb d_R_giveSeat_49 (lv_at hl 0 rfl) ?_
          refine lv_iconst (v := (-1)) hx hb d_R_giveSeat_51 rfl ?_
          refine lv_icmp_eq (tgt := 87) hx hb d_R_giveSeat_52 rfl (fun hc => ?_) (fun hc => ?_)
          · have hf := ite_t hc hf
            obtain ⟨x4, hx4, hf⟩ := xlt_some hf
            refine lv_iinc (k := 6) (lv' := [(5, .int x4), (6, .int s47_0), (0, .ref (ad 18)), (1, .int a1), (2, .int a2), (3, .int a3), (4, .int a4)]) hx hb d_R_giveSeat_87 hl rfl hx4 (by decide) rfl (fun ls hl => ?_)
            refine lv_goto (tgt := 17) hx hb d_R_giveSeat_90 rfl ?_
            exact ih17 x4 M _ _ _ (lv_sub hl [2, 3, 4, 5, 6, 0] rfl) hP hS (xw_again hf hn17)
          · have hf := ite_f hc hf
            refine lv_aload_n hx hb d_R_giveSeat_55 rfl (lv_at hl 1 rfl) ?_
            refine xr_getr hx hb hT hown hK hP sX_18 rfl inR 4 (by decide) wf_R_27 rfl d_R_giveSeat_56 ?_
            refine lv_iload_n hx hb d_R_giveSeat_59 rfl (lv_at hl 2 rfl) ?_
            obtain ⟨g5, hf⟩ := xgd_some hf
            refine xr_aald hx hb hK hP sX_23 g5 d_R_giveSeat_60 ?_
            refine lv_iload hx hb d_R_giveSeat_61 (lv_at hl 0 rfl) ?_
            refine lv_iload_n hx hb d_R_giveSeat_63 rfl (lv_at hl 3 rfl) ?_
            obtain ⟨g6, hf⟩ := xgd_some hf
            obtain ⟨M7, hM7, hf⟩ := xlt_some hf
            refine xr_iast hx hb hd hK hP hS (sX_r23 g5) g6 d_R_giveSeat_64 (fun H locs hP hS => ?_)
            rw [hM7] at hP
            refine lv_aload_n hx hb d_R_giveSeat_65 rfl (lv_at hl 1 rfl) ?_
            refine xr_getr hx hb hT hown hK hP sX_18 rfl inR 5 (by decide) wf_R_30 rfl d_R_giveSeat_66 ?_
            refine lv_iload_n hx hb d_R_giveSeat_69 rfl (lv_at hl 2 rfl) ?_
            obtain ⟨g8, hf⟩ := xgd_some hf
            refine xr_aald hx hb hK hP sX_30 g8 d_R_giveSeat_70 ?_
            refine lv_iload hx hb d_R_giveSeat_71 (lv_at hl 0 rfl) ?_
            refine lv_iload_n hx hb d_R_giveSeat_73 rfl (lv_at hl 4 rfl) ?_
            obtain ⟨g9, hf⟩ := xgd_some hf
            obtain ⟨M10, hM10, hf⟩ := xlt_some hf
            refine xr_iast hx hb hd hK hP hS (sX_r30 g8) g9 d_R_giveSeat_74 (fun H locs hP hS => ?_)
            rw [hM10] at hP
            refine lv_aload_n hx hb d_R_giveSeat_75 rfl (lv_at hl 1 rfl) ?_
            refine xr_getr hx hb hT hown hK hP sX_18 rfl inR 6 (by decide) wf_R_33 rfl d_R_giveSeat_76 ?_
            refine lv_iload_n hx hb d_R_giveSeat_79 rfl (lv_at hl 2 rfl) ?_
            obtain ⟨g11, hf⟩ := xgd_some hf
            refine xr_aald hx hb hK hP sX_37 g11 d_R_giveSeat_80 ?_
            refine lv_iload_n hx hb d_R_giveSeat_81 rfl (lv_at hl 3 rfl) ?_
            refine lv_iload hx hb d_R_giveSeat_82 (lv_at hl 0 rfl) ?_
            obtain ⟨g12, hf⟩ := xgd_some hf
            obtain ⟨M13, hM13, hf⟩ := xlt_some hf
            refine xr_iast hx hb hd hK hP hS (sX_r37 g11) g12 d_R_giveSeat_84 (fun H locs hP hS => ?_)
            rw [hM13] at hP
            refine lv_iconst (v := 1) hx hb d_R_giveSeat_85 rfl ?_
            obtain ⟨z14, hf⟩ := xgd_some hf
            have he := xw_exit hf hn17
            subst he
            have hf := hk17
            exact xw_zret hx hb hr hlk hP hS z14 (Option.some.inj hf) d_R_giveSeat_86
        unfold gR_giveSeat_17 at hf
        refine lv_iload hx hb d_R_giveSeat_17 (lv_at hl 5 rfl) ?_
        refine lv_iconst (v := 4) hx hb d_R_giveSeat_19 rfl ?_
        refine lv_icmp_ge (tgt := 93) hx hb d_R_giveSeat_20 rfl (fun hc => ?_) (fun hc => ?_)
        · have hf := ite_t hc hf
          have he := xw_exit hf hn17
          subst he
          have hf := hk17
          exact K93  M _ _ _  (lv_sub hl [] rfl) hP hS hf
        · have hf := ite_f hc hf
          refine lv_aload_n hx hb d_R_giveSeat_23 rfl (lv_at hl 0 rfl) ?_
          refine xr_getr hx hb hT hown hK hP sX_18 rfl inR 2 (by decide) wf_R_18 rfl d_R_giveSeat_24 ?_
          refine lv_iload hx hb d_R_giveSeat_27 (lv_at hl 5 rfl) ?_
          obtain ⟨g15, hf⟩ := xgd_some hf
          refine xr_zald hx hb hK hP sX_21 g15 d_R_giveSeat_29 ?_
          refine lv_iload hx hb d_R_giveSeat_30 (lv_at hl 4 rfl) ?_
          refine lv_icmp_ne (tgt := 46) hx hb d_R_giveSeat_32 rfl (fun hc => ?_) (fun hc => ?_)
          · have hf := ite_f hc hf
            refine lv_iconst (v := (-1)) hx hb d_R_giveSeat_46 rfl ?_
            exact K47 v5 (-1) M _ _ _  hl hP hS hf
          · have hf := ite_t hc hf
            refine lv_aload_n hx hb d_R_giveSeat_35 rfl (lv_at hl 0 rfl) ?_
            refine lv_iload_n hx hb d_R_giveSeat_36 rfl (lv_at hl 1 rfl) ?_
            refine lv_iload hx hb d_R_giveSeat_37 (lv_at hl 5 rfl) ?_
            refine lv_iload_n hx hb d_R_giveSeat_39 rfl (lv_at hl 3 rfl) ?_
            obtain ⟨r16, hr16, hf⟩ := xbd_some hf
            refine xc_rv (rest := []) F hT hK hP (tR_firstPlace l G c3 ad M a1 v5 a3 r16 hr16) sX_18 rfl wl_R_50 wi_R_firstPlace we_R_firstPlace wn_R wc_R_firstPlace ck_R_firstPlace ⟨rfl, rfl⟩ ⟨by decide, by decide⟩ ⟨Nat.le_refl _, Nat.le_refl _⟩ hl.1 rfl (Nat.le_of_ble_eq_true rfl) d_R_giveSeat_40 ?_
            refine lv_goto (tgt := 47) hx hb d_R_giveSeat_43 rfl ?_
            exact K47 v5 r16 M _ _ _  hl hP hS hf
    exact LH17 n17 0 M _ _ _ (lv_sub hl [1, 2, 3, 4, 5, 0] rfl) hP hS hq17
  · have hf := ite_f hc hf
    refine lv_iconst (v := 1) hx hb d_R_giveSeat_12 rfl ?_
    obtain ⟨z17, hf⟩ := xgd_some hf
    exact xw_zret hx hb hr hlk hP hS z17 (Option.some.inj hf) d_R_giveSeat_13
noncomputable def fE_seat_86 (v2 : Int32) (M : Mem) : Option (Int32 × Mem) := some (v2, M)
noncomputable def fE_seat_80 (v1 v2 v3 : Int32) (M : Mem) : Option ((Int32 × Int32 × Mem) ⊕ (Int32 × Int32 × Mem)) := xlt (v3 + 1) (fun x1 => some (.inr (v2, x1, M)))
noncomputable def gE_seat_31 (v1 : Int32) (v2 v3 : Int32) (M : Mem) : Option ((Int32 × Int32 × Mem) ⊕ (Int32 × Int32 × Mem)) := if 40 ≤ v3 then (some (.inl (v2, v3, M))) else (xbd (fT_paperOf v3 v1 M) (fun r2 => if r2 = (-1) then (fE_seat_80 v1 v2 v3 M) else (xgd (vp_in v3 40) (xbd (fR_giveSeat v1 v3 r2 (M 5 v3.toNatClampNeg) M) (fun r4 => if r4.1 = 0 then (xlt (v2 + 1) (fun x5 => fE_seat_80 v1 x5 v3 r4.2)) else (fE_seat_80 v1 v2 v3 r4.2))))))
noncomputable def bE_seat_31 (v1 : Int32) : Int32 × Int32 × Mem → Option ((Int32 × Int32 × Mem) ⊕ (Int32 × Int32 × Mem)) := fun st => gE_seat_31 v1 st.1 st.2.1 st.2.2
noncomputable def fE_seat (a1 : Int32) (M : Mem) : Option (Int32 × Mem) := xbd (fE_isSession a1) (fun r6 => xbd (fE_mustExist r6) (fun _ => if (M 1 7) = 0 then (none) else (xbd (xlp (bE_seat_31 a1) (0, 0, M)) (fun e31 => fE_seat_86 e31.1 e31.2.2))))
set_option maxHeartbeats 4000000 in
set_option maxRecDepth 100000 in
theorem tE_seat (l : Launch) (G : va_G) (c3 : ClassId × ClassId × ClassId) (ad : Nat → Nat) (hd : adI SX ad) (M : Mem) (a1 : Int32) (o1 : Int32) (o2 : Mem) (hf : fE_seat a1 M = some (o1, o2)) : WMet l yE_seat cE_seat 5 (some .int) (rm0_ 6 146) G kl SX c3 ad M [.ref (ad 0), .int a1] (some (.int o1)) o2 := by
  generalize hout : (o1, o2) = out at hf
  obtain rfl : out.1 = o1 := by rw [← hout]
  obtain rfl : out.2 = o2 := by rw [← hout]
  clear hout
  refine WMet.of (by decide +kernel) (Nat.le_of_ble_eq_true rfl) (fun p e s m args below meth c ls F hT hK hP hr hlk hl hS => ?_)
  have hx := F.1
  have hb := F.2.1
  have F : CallFix p m c cE_seat 5 s args gw RE := F
  have hown := F.2.2.2.1
  have hl : lv_has ls 5 [(0, .ref (ad 0)), (1, .int a1)] := hl
  revert hP hS
  suffices hall : ∀ (H : Heap) (locs : List Loc), va_P G kl (wd SX c3 ad M) H → va_S (adA SX ad) s.heap H locs → W p l e (rm0_ 6 146) s m args below meth c H locs 0 0 (MQ below (QW G kl SX c3 ad (some (.int out.1)) out.2) args s 0 0 (adA SX ad)) (F0 m 0 ls []) from hall s.heap []
  intro H locs hP hS
  have K86 : ∀ (v2 : Int32) (M : Mem) (H : Heap) (locs : List Loc) (ls : Array Slot), lv_has ls 5 [(2, .int v2)] → va_P G kl (wd SX c3 ad M) H → va_S (adA SX ad) s.heap H locs → fE_seat_86 v2 M = some out → W p l e (rm0_ 6 146) s m args below meth c H locs 0 0 (MQ below (QW G kl SX c3 ad (some (.int out.1)) out.2) args s 0 0 (adA SX ad)) (F0 m 86 ls []) := by
    intro v2 M H locs ls  hl hP hS hf
    unfold fE_seat_86 at hf
    refine lv_iload_n hx hb d_E_seat_86 rfl (lv_at hl 0 rfl) ?_
    exact xw_iret hx hb hr hlk hP hS (Option.some.inj hf) d_E_seat_87
  unfold fE_seat at hf
  refine lv_iload_n hx hb d_E_seat_0 rfl (lv_at hl 1 rfl) ?_
  obtain ⟨r1, hr1, hf⟩ := xbd_some hf
  refine xc_rs (rest := []) F hT hK hP (tE_isSession l G c3 ad M a1 r1 hr1) wl_E_52 ws_E_isSession wn_E wc_E_isSession ck_E_isSession ⟨rfl, rfl⟩ ⟨by decide, by decide⟩ ⟨Nat.le_refl _, Nat.le_refl _⟩ hl.1 rfl (Nat.le_of_ble_eq_true rfl) d_E_seat_1 ?_
  obtain ⟨r2, hr2, hf⟩ := xbd_some hf
  refine xc_vs (rest := []) F hT hK hP (tE_mustExist l G c3 ad M r1 hr2) wl_E_34 ws_E_mustExist wn_E wc_E_mustExist ck_E_mustExist ⟨rfl, rfl⟩ ⟨by decide, by decide⟩ ⟨Nat.le_refl _, Nat.le_refl _⟩ hl.1 rfl (Nat.le_of_ble_eq_true rfl) d_E_seat_4 ?_
  refine lv_aload_n hx hb d_E_seat_7 rfl (lv_at hl 0 rfl) ?_
  refine xr_getr hx hb hT hown hK hP sX_0 rfl inE 0 (by decide) wf_E_12 rfl d_E_seat_8 ?_
  refine xr_geti hx hb hT hown hK hP sX_1 rfl inT 7 (by decide) wf_E_132 rfl d_E_seat_11 ?_
  refine lv_if_ne (tgt := 27) hx hb d_E_seat_14 rfl (fun hc => ?_) (fun hc => ?_)
  · have hf := ite_f hc hf
    refine lv_iconst (v := 0) hx hb d_E_seat_27 rfl ?_
    refine lv_istore_n (lv' := [(2, .int 0), (0, .ref (ad 0)), (1, .int a1)]) hx hb d_E_seat_28 rfl hl (by decide) rfl (fun ls hl => ?_)
    refine lv_iconst (v := 0) hx hb d_E_seat_29 rfl ?_
    refine lv_istore_n (lv' := [(3, .int 0), (2, .int 0), (0, .ref (ad 0)), (1, .int a1)]) hx hb d_E_seat_30 rfl hl (by decide) rfl (fun ls hl => ?_)
    obtain ⟨e31, he31, hk31⟩ := xbd_some hf
    obtain ⟨n31, hq31⟩ := xlp_n he31
    have LH31 : ∀ (n : Nat) (v2 v3 : Int32) (M : Mem) (H : Heap) (locs : List Loc) (ls : Array Slot), lv_has ls 5 [(0, .ref (ad 0)), (1, .int a1), (2, .int v2), (3, .int v3)] → va_P G kl (wd SX c3 ad M) H → va_S (adA SX ad) s.heap H locs → xwh (bE_seat_31 a1) n (v2, v3, M) = some e31 → W p l e (rm0_ 6 146) s m args below meth c H locs 0 0 (MQ below (QW G kl SX c3 ad (some (.int out.1)) out.2) args s 0 0 (adA SX ad)) (F0 m 31 ls []) := by
      intro n
      induction n with
      | zero =>
        intro v2 v3 M H locs ls hl hP hS hn
        exact xwh_0 hn
      | succ n ih31 =>
        intro v2 v3 M H locs ls hl hP hS hn31
        obtain ⟨o31, hf, hn31⟩ := xwh_s hn31
        have hf : gE_seat_31 a1 v2 v3 M = some o31 := hf
        have K80 : ∀ (v2 v3 : Int32) (M : Mem) (H : Heap) (locs : List Loc) (ls : Array Slot), lv_has ls 5 [(0, .ref (ad 0)), (1, .int a1), (2, .int v2), (3, .int v3)] → va_P G kl (wd SX c3 ad M) H → va_S (adA SX ad) s.heap H locs → fE_seat_80 a1 v2 v3 M = some o31 → W p l e (rm0_ 6 146) s m args below meth c H locs 0 0 (MQ below (QW G kl SX c3 ad (some (.int out.1)) out.2) args s 0 0 (adA SX ad)) (F0 m 80 ls []) := by
          intro v2 v3 M H locs ls  hl hP hS hf
          unfold fE_seat_80 at hf
          obtain ⟨x3, hx3, hf⟩ := xlt_some hf
          refine lv_iinc (k := 3) (lv' := [(3, .int x3), (0, .ref (ad 0)), (1, .int a1), (2, .int v2)]) hx hb d_E_seat_80 hl rfl hx3 (by decide) rfl (fun ls hl => ?_)
          refine lv_goto (tgt := 31) hx hb d_E_seat_83 rfl ?_
          exact ih31 v2 x3 M _ _ _ (lv_sub hl [1, 2, 3, 0] rfl) hP hS (xw_again hf hn31)
        unfold gE_seat_31 at hf
        refine lv_iload_n hx hb d_E_seat_31 rfl (lv_at hl 3 rfl) ?_
        refine lv_bipush (v := 40) hx hb d_E_seat_32 rfl ?_
        refine lv_icmp_ge (tgt := 86) hx hb d_E_seat_34 rfl (fun hc => ?_) (fun hc => ?_)
        · have hf := ite_t hc hf
          have he := xw_exit hf hn31
          subst he
          have hf := hk31
          exact K86 v2 M _ _ _  (lv_sub hl [2] rfl) hP hS hf
        · have hf := ite_f hc hf
          refine lv_aload_n hx hb d_E_seat_37 rfl (lv_at hl 0 rfl) ?_
          refine xr_getr hx hb hT hown hK hP sX_0 rfl inE 0 (by decide) wf_E_12 rfl d_E_seat_38 ?_
          refine lv_iload_n hx hb d_E_seat_41 rfl (lv_at hl 3 rfl) ?_
          refine lv_iload_n hx hb d_E_seat_42 rfl (lv_at hl 1 rfl) ?_
          obtain ⟨r4, hr4, hf⟩ := xbd_some hf
          refine xc_rv (rest := []) F hT hK hP (tT_paperOf l G c3 ad M v3 a1 r4 hr4) sX_1 rfl wl_E_138 wi_T_paperOf we_T_paperOf wn_T wc_T_paperOf ck_T_paperOf ⟨rfl, rfl⟩ ⟨by decide, by decide⟩ ⟨Nat.le_refl _, Nat.le_refl _⟩ hl.1 rfl (Nat.le_of_ble_eq_true rfl) d_E_seat_43 ?_
          refine lv_istore (lv' := [(4, .int r4), (0, .ref (ad 0)), (1, .int a1), (2, .int v2), (3, .int v3)]) hx hb d_E_seat_46 hl (by decide) rfl (fun ls hl => ?_)
          refine lv_iload hx hb d_E_seat_48 (lv_at hl 0 rfl) ?_
          refine lv_iconst (v := (-1)) hx hb d_E_seat_50 rfl ?_
          refine lv_icmp_eq (tgt := 80) hx hb d_E_seat_51 rfl (fun hc => ?_) (fun hc => ?_)
          · have hf := ite_t hc hf
            exact K80 v2 v3 M _ _ _  (lv_sub hl [1, 2, 3, 4] rfl) hP hS hf
          · have hf := ite_f hc hf
            refine lv_aload_n hx hb d_E_seat_54 rfl (lv_at hl 1 rfl) ?_
            refine xr_getr hx hb hT hown hK hP sX_0 rfl inE 1 (by decide) wf_E_19 rfl d_E_seat_55 ?_
            refine lv_iload_n hx hb d_E_seat_58 rfl (lv_at hl 2 rfl) ?_
            refine lv_iload_n hx hb d_E_seat_59 rfl (lv_at hl 4 rfl) ?_
            refine lv_iload hx hb d_E_seat_60 (lv_at hl 0 rfl) ?_
            refine lv_aload_n hx hb d_E_seat_62 rfl (lv_at hl 1 rfl) ?_
            refine xr_getr hx hb hT hown hK hP sX_0 rfl inE 0 (by decide) wf_E_12 rfl d_E_seat_63 ?_
            refine xr_getr hx hb hT hown hK hP sX_1 rfl inT 3 (by decide) wf_E_71 rfl d_E_seat_66 ?_
            refine lv_iload_n hx hb d_E_seat_69 rfl (lv_at hl 4 rfl) ?_
            obtain ⟨g5, hf⟩ := xgd_some hf
            refine xr_zald hx hb hK hP sX_5 g5 d_E_seat_70 ?_
            obtain ⟨r6, hr6, hf⟩ := xbd_some hf
            refine xc_wv (rest := []) F hT hK hP hS (fun _ h => h) (tR_giveSeat l G c3 ad hd M a1 v3 r4 (M 5 v3.toNatClampNeg) r6.1 r6.2 hr6) sX_18 rfl wl_E_141 wi_R_giveSeat we_R_giveSeat wn_R wc_R_giveSeat ck_R_giveSeat ⟨rfl, rfl⟩ ⟨by decide, by decide⟩ ⟨Nat.le_refl _, Nat.le_refl _⟩ hl.1 rfl (Nat.le_of_ble_eq_true rfl) d_E_seat_71 (fun H locs hP hS _ => ?_)
            refine lv_if_ne (tgt := 80) hx hb d_E_seat_74 rfl (fun hc => ?_) (fun hc => ?_)
            · have hf := ite_f hc hf
              exact K80 v2 v3 r6.2 _ _ _  (lv_sub hl [1, 2, 3, 4] rfl) hP hS hf
            · have hf := ite_t hc hf
              obtain ⟨x7, hx7, hf⟩ := xlt_some hf
              refine lv_iinc (k := 3) (lv' := [(2, .int x7), (4, .int r4), (0, .ref (ad 0)), (1, .int a1), (3, .int v3)]) hx hb d_E_seat_77 hl rfl hx7 (by decide) rfl (fun ls hl => ?_)
              exact K80 x7 v3 r6.2 _ _ _  (lv_sub hl [2, 3, 0, 4] rfl) hP hS hf
    exact LH31 n31 0 0 M _ _ _ (lv_sub hl [2, 3, 1, 0] rfl) hP hS hq31
  · have hf := ite_t hc hf
    exact no_some hf
noncomputable def fE_seatNumber (a0 : Int32) : Option (Int32) := if a0 = (-1) then (some (-1)) else (xlt ((a0 - a0 / 36 * 36)) (fun x1 => some (((100 * (a0 / 36)) + (10 * (x1 / 6))) + (x1 - x1 / 6 * 6))))
set_option maxHeartbeats 4000000 in
set_option maxRecDepth 100000 in
theorem tE_seatNumber (l : Launch) (G : va_G) (c3 : ClassId × ClassId × ClassId) (ad : Nat → Nat) (M : Mem) (a0 : Int32) (out : Int32) (hf : fE_seatNumber a0 = some out) : RMet l yE_seatNumber cE_seatNumber 2 (some .int) (rm0_ 0 0) G kl SX c3 ad M [.int a0] out := by
  refine RMet.of (by decide +kernel) (Nat.le_of_ble_eq_true rfl) (fun p e s m args below meth c ls F hT hK hP hr hlk hl => ?_)
  have hx := F.1
  have hb := F.2.1
  have F : CallFix p m c cE_seatNumber 2 s args gw RE := F
  have hown := F.2.2.2.1
  have hl : lv_has ls 2 [(0, .int a0)] := hl
  unfold fE_seatNumber at hf
  refine lv_iload_n hx hb d_E_seatNumber_0 rfl (lv_at hl 0 rfl) ?_
  refine lv_iconst (v := (-1)) hx hb d_E_seatNumber_1 rfl ?_
  refine lv_icmp_ne (tgt := 7) hx hb d_E_seatNumber_2 rfl (fun hc => ?_) (fun hc => ?_)
  · have hf := ite_f hc hf
    refine lv_iload_n hx hb d_E_seatNumber_7 rfl (lv_at hl 0 rfl) ?_
    refine lv_bipush (v := 36) hx hb d_E_seatNumber_8 rfl ?_
    refine lv_irem hx hb d_E_seatNumber_10 (by decide) ?_
    obtain ⟨x1, hx1, hf⟩ := xlt_some hf
    refine xr_name hx1 ?_
    refine lv_istore_n (lv' := [(1, .int x1), (0, .int a0)]) hx hb d_E_seatNumber_11 rfl hl (by decide) rfl (fun ls hl => ?_)
    refine lv_bipush (v := 100) hx hb d_E_seatNumber_12 rfl ?_
    refine lv_iload_n hx hb d_E_seatNumber_14 rfl (lv_at hl 1 rfl) ?_
    refine lv_bipush (v := 36) hx hb d_E_seatNumber_15 rfl ?_
    refine lv_idiv hx hb d_E_seatNumber_17 (by decide) ?_
    refine lv_imul hx hb d_E_seatNumber_18 ?_
    refine lv_bipush (v := 10) hx hb d_E_seatNumber_19 rfl ?_
    refine lv_iload_n hx hb d_E_seatNumber_21 rfl (lv_at hl 0 rfl) ?_
    refine lv_bipush (v := 6) hx hb d_E_seatNumber_22 rfl ?_
    refine lv_idiv hx hb d_E_seatNumber_24 (by decide) ?_
    refine lv_imul hx hb d_E_seatNumber_25 ?_
    refine lv_iadd hx hb d_E_seatNumber_26 ?_
    refine lv_iload_n hx hb d_E_seatNumber_27 rfl (lv_at hl 0 rfl) ?_
    refine lv_bipush (v := 6) hx hb d_E_seatNumber_28 rfl ?_
    refine lv_irem hx hb d_E_seatNumber_30 (by decide) ?_
    refine lv_iadd hx hb d_E_seatNumber_31 ?_
    exact xr_iret hx hb hr hlk (Option.some.inj hf) d_E_seatNumber_32
  · have hf := ite_t hc hf
    refine lv_iconst (v := (-1)) hx hb d_E_seatNumber_5 rfl ?_
    exact xr_iret hx hb hr hlk (Option.some.inj hf) d_E_seatNumber_6
noncomputable def fE_leave_19 (v1 v2 s19_0 : Int32) (M : Mem) : Option (Int32 × Mem) := xbd (fE_mustExist s19_0) (fun _ => xgd (vp_in v2 6) (xgd (vp_in v1 40) (xlt ((M (37 + 1 + v2.toNatClampNeg) v1.toNatClampNeg)) (fun x4 => xbd (fR_vacate v2 x4 M) (fun r5 => xbd (fE_seatNumber x4) (fun r6 => some (r6, r5)))))))
noncomputable def fE_leave_18 (v1 v2 : Int32) (M : Mem) : Option (Int32 × Mem) := fE_leave_19 v1 v2 0 M
noncomputable def fE_leave (a1 a2 : Int32) (M : Mem) : Option (Int32 × Mem) := xbd (fE_isCandidate a1) (fun r7 => if r7 = 0 then (fE_leave_18 a1 a2 M) else (xbd (fE_isSession a2) (fun r8 => if r8 = 0 then (fE_leave_18 a1 a2 M) else (fE_leave_19 a1 a2 1 M))))
set_option maxHeartbeats 4000000 in
set_option maxRecDepth 100000 in
theorem tE_leave (l : Launch) (G : va_G) (c3 : ClassId × ClassId × ClassId) (ad : Nat → Nat) (hd : adI SX ad) (M : Mem) (a1 a2 : Int32) (o1 : Int32) (o2 : Mem) (hf : fE_leave a1 a2 M = some (o1, o2)) : WMet l yE_leave cE_leave 4 (some .int) (rm0_ 2 41) G kl SX c3 ad M [.ref (ad 0), .int a1, .int a2] (some (.int o1)) o2 := by
  generalize hout : (o1, o2) = out at hf
  obtain rfl : out.1 = o1 := by rw [← hout]
  obtain rfl : out.2 = o2 := by rw [← hout]
  clear hout
  refine WMet.of (by decide +kernel) (Nat.le_of_ble_eq_true rfl) (fun p e s m args below meth c ls F hT hK hP hr hlk hl hS => ?_)
  have hx := F.1
  have hb := F.2.1
  have F : CallFix p m c cE_leave 4 s args gw RE := F
  have hown := F.2.2.2.1
  have hl : lv_has ls 4 [(0, .ref (ad 0)), (1, .int a1), (2, .int a2)] := hl
  revert hP hS
  suffices hall : ∀ (H : Heap) (locs : List Loc), va_P G kl (wd SX c3 ad M) H → va_S (adA SX ad) s.heap H locs → W p l e (rm0_ 2 41) s m args below meth c H locs 0 0 (MQ below (QW G kl SX c3 ad (some (.int out.1)) out.2) args s 0 0 (adA SX ad)) (F0 m 0 ls []) from hall s.heap []
  intro H locs hP hS
  have K19 : ∀ (v1 v2 s19_0 : Int32) (M : Mem) (H : Heap) (locs : List Loc) (ls : Array Slot), lv_has ls 4 [(0, .ref (ad 0)), (1, .int v1), (2, .int v2)] → va_P G kl (wd SX c3 ad M) H → va_S (adA SX ad) s.heap H locs → fE_leave_19 v1 v2 s19_0 M = some out → W p l e (rm0_ 2 41) s m args below meth c H locs 0 0 (MQ below (QW G kl SX c3 ad (some (.int out.1)) out.2) args s 0 0 (adA SX ad)) (F0 m 19 ls [.int s19_0]) := by
    intro v1 v2 s19_0 M H locs ls  hl hP hS hf
    unfold fE_leave_19 at hf
    obtain ⟨r1, hr1, hf⟩ := xbd_some hf
    refine xc_vs (rest := []) F hT hK hP (tE_mustExist l G c3 ad M s19_0 hr1) wl_E_34 ws_E_mustExist wn_E wc_E_mustExist ck_E_mustExist ⟨rfl, rfl⟩ ⟨by decide, by decide⟩ ⟨Nat.le_refl _, Nat.le_refl _⟩ hl.1 rfl (Nat.le_of_ble_eq_true rfl) d_E_leave_19 ?_
    refine lv_aload_n hx hb d_E_leave_22 rfl (lv_at hl 0 rfl) ?_
    refine xr_getr hx hb hT hown hK hP sX_0 rfl inE 1 (by decide) wf_E_19 rfl d_E_leave_23 ?_
    refine xr_getr hx hb hT hown hK hP sX_18 rfl inR 6 (by decide) wf_E_145 rfl d_E_leave_26 ?_
    refine lv_iload_n hx hb d_E_leave_29 rfl (lv_at hl 2 rfl) ?_
    obtain ⟨g2, hf⟩ := xgd_some hf
    refine xr_aald hx hb hK hP sX_37 g2 d_E_leave_30 ?_
    refine lv_iload_n hx hb d_E_leave_31 rfl (lv_at hl 1 rfl) ?_
    obtain ⟨g3, hf⟩ := xgd_some hf
    refine xr_iald hx hb hK hP (sX_r37 g2) g3 d_E_leave_32 ?_
    obtain ⟨x4, hx4, hf⟩ := xlt_some hf
    refine xr_name hx4 ?_
    refine lv_istore_n (lv' := [(3, .int x4), (0, .ref (ad 0)), (1, .int v1), (2, .int v2)]) hx hb d_E_leave_33 rfl hl (by decide) rfl (fun ls hl => ?_)
    refine lv_aload_n hx hb d_E_leave_34 rfl (lv_at hl 1 rfl) ?_
    refine xr_getr hx hb hT hown hK hP sX_0 rfl inE 1 (by decide) wf_E_19 rfl d_E_leave_35 ?_
    refine lv_iload_n hx hb d_E_leave_38 rfl (lv_at hl 3 rfl) ?_
    refine lv_iload_n hx hb d_E_leave_39 rfl (lv_at hl 0 rfl) ?_
    obtain ⟨r5, hr5, hf⟩ := xbd_some hf
    refine xc_wv (rest := []) F hT hK hP hS (fun _ h => h) (tR_vacate l G c3 ad hd M v2 x4 r5 hr5) sX_18 rfl wl_E_149 wi_R_vacate we_R_vacate wn_R wc_R_vacate ck_R_vacate ⟨rfl, rfl⟩ ⟨by decide, by decide⟩ ⟨Nat.le_refl _, Nat.le_refl _⟩ hl.1 rfl (Nat.le_of_ble_eq_true rfl) d_E_leave_40 (fun H locs hP hS _ => ?_)
    refine lv_iload_n hx hb d_E_leave_43 rfl (lv_at hl 0 rfl) ?_
    obtain ⟨r6, hr6, hf⟩ := xbd_some hf
    refine xc_rs (rest := []) F hT hK hP (tE_seatNumber l G c3 ad r5 x4 r6 hr6) wl_E_153 ws_E_seatNumber wn_E wc_E_seatNumber ck_E_seatNumber ⟨rfl, rfl⟩ ⟨by decide, by decide⟩ ⟨Nat.le_refl _, Nat.le_refl _⟩ hl.1 rfl (Nat.le_of_ble_eq_true rfl) d_E_leave_44 ?_
    exact xw_iret hx hb hr hlk hP hS (Option.some.inj hf) d_E_leave_47
  have K18 : ∀ (v1 v2 : Int32) (M : Mem) (H : Heap) (locs : List Loc) (ls : Array Slot), lv_has ls 4 [(0, .ref (ad 0)), (1, .int v1), (2, .int v2)] → va_P G kl (wd SX c3 ad M) H → va_S (adA SX ad) s.heap H locs → fE_leave_18 v1 v2 M = some out → W p l e (rm0_ 2 41) s m args below meth c H locs 0 0 (MQ below (QW G kl SX c3 ad (some (.int out.1)) out.2) args s 0 0 (adA SX ad)) (F0 m 18 ls []) := by
    intro v1 v2 M H locs ls  hl hP hS hf
    unfold fE_leave_18 at hf
    refine lv_iconst (v := 0) hx hb d_E_leave_18 rfl ?_
    exact K19 v1 v2 0 M _ _ _  hl hP hS hf
  unfold fE_leave at hf
  refine lv_iload_n hx hb d_E_leave_0 rfl (lv_at hl 1 rfl) ?_
  obtain ⟨r7, hr7, hf⟩ := xbd_some hf
  refine xc_rs (rest := []) F hT hK hP (tE_isCandidate l G c3 ad M a1 r7 hr7) wl_E_58 ws_E_isCandidate wn_E wc_E_isCandidate ck_E_isCandidate ⟨rfl, rfl⟩ ⟨by decide, by decide⟩ ⟨Nat.le_refl _, Nat.le_refl _⟩ hl.1 rfl (Nat.le_of_ble_eq_true rfl) d_E_leave_1 ?_
  refine lv_if_eq (tgt := 18) hx hb d_E_leave_4 rfl (fun hc => ?_) (fun hc => ?_)
  · have hf := ite_t hc hf
    exact K18 a1 a2 M _ _ _  hl hP hS hf
  · have hf := ite_f hc hf
    refine lv_iload_n hx hb d_E_leave_7 rfl (lv_at hl 2 rfl) ?_
    obtain ⟨r8, hr8, hf⟩ := xbd_some hf
    refine xc_rs (rest := []) F hT hK hP (tE_isSession l G c3 ad M a2 r8 hr8) wl_E_52 ws_E_isSession wn_E wc_E_isSession ck_E_isSession ⟨rfl, rfl⟩ ⟨by decide, by decide⟩ ⟨Nat.le_refl _, Nat.le_refl _⟩ hl.1 rfl (Nat.le_of_ble_eq_true rfl) d_E_leave_8 ?_
    refine lv_if_eq (tgt := 18) hx hb d_E_leave_11 rfl (fun hc => ?_) (fun hc => ?_)
    · have hf := ite_t hc hf
      exact K18 a1 a2 M _ _ _  hl hP hS hf
    · have hf := ite_f hc hf
      refine lv_iconst (v := 1) hx hb d_E_leave_14 rfl ?_
      refine lv_goto (tgt := 19) hx hb d_E_leave_15 rfl ?_
      exact K19 a1 a2 1 M _ _ _  hl hP hS hf
noncomputable def fE_where_19 (v1 v2 s19_0 : Int32) (M : Mem) : Option (Int32) := xbd (fE_mustExist s19_0) (fun _ => xgd (vp_in v2 6) (xgd (vp_in v1 40) (xbd (fE_seatNumber (M (37 + 1 + v2.toNatClampNeg) v1.toNatClampNeg)) (fun r4 => some r4))))
noncomputable def fE_where_18 (v1 v2 : Int32) (M : Mem) : Option (Int32) := fE_where_19 v1 v2 0 M
noncomputable def fE_where (a1 a2 : Int32) (M : Mem) : Option (Int32) := xbd (fE_isCandidate a1) (fun r5 => if r5 = 0 then (fE_where_18 a1 a2 M) else (xbd (fE_isSession a2) (fun r6 => if r6 = 0 then (fE_where_18 a1 a2 M) else (fE_where_19 a1 a2 1 M))))
set_option maxHeartbeats 4000000 in
set_option maxRecDepth 100000 in
theorem tE_where (l : Launch) (G : va_G) (c3 : ClassId × ClassId × ClassId) (ad : Nat → Nat) (M : Mem) (a1 a2 : Int32) (out : Int32) (hf : fE_where a1 a2 M = some out) : RMet l yE_where cE_where 3 (some .int) (rm0_ 2 41) G kl SX c3 ad M [.ref (ad 0), .int a1, .int a2] out := by
  refine RMet.of (by decide +kernel) (Nat.le_of_ble_eq_true rfl) (fun p e s m args below meth c ls F hT hK hP hr hlk hl => ?_)
  have hx := F.1
  have hb := F.2.1
  have F : CallFix p m c cE_where 3 s args gw RE := F
  have hown := F.2.2.2.1
  have hl : lv_has ls 3 [(0, .ref (ad 0)), (1, .int a1), (2, .int a2)] := hl
  have K19 : ∀ (v1 v2 s19_0 : Int32) (ls : Array Slot), lv_has ls 3 [(0, .ref (ad 0)), (1, .int v1), (2, .int v2)] → fE_where_19 v1 v2 s19_0 M = some out → W p l e (rm0_ 2 41) s m args below meth c s.heap [] 0 0 (MQ below (QcRead out) args s 0 0 (fun _ => False)) (F0 m 19 ls [.int s19_0]) := by
    intro v1 v2 s19_0 ls  hl hf
    unfold fE_where_19 at hf
    obtain ⟨r1, hr1, hf⟩ := xbd_some hf
    refine xc_vs (rest := []) F hT hK hP (tE_mustExist l G c3 ad M s19_0 hr1) wl_E_34 ws_E_mustExist wn_E wc_E_mustExist ck_E_mustExist ⟨rfl, rfl⟩ ⟨by decide, by decide⟩ ⟨Nat.le_refl _, Nat.le_refl _⟩ hl.1 rfl (Nat.le_of_ble_eq_true rfl) d_E_where_19 ?_
    refine lv_aload_n hx hb d_E_where_22 rfl (lv_at hl 0 rfl) ?_
    refine xr_getr hx hb hT hown hK hP sX_0 rfl inE 1 (by decide) wf_E_19 rfl d_E_where_23 ?_
    refine xr_getr hx hb hT hown hK hP sX_18 rfl inR 6 (by decide) wf_E_145 rfl d_E_where_26 ?_
    refine lv_iload_n hx hb d_E_where_29 rfl (lv_at hl 2 rfl) ?_
    obtain ⟨g2, hf⟩ := xgd_some hf
    refine xr_aald hx hb hK hP sX_37 g2 d_E_where_30 ?_
    refine lv_iload_n hx hb d_E_where_31 rfl (lv_at hl 1 rfl) ?_
    obtain ⟨g3, hf⟩ := xgd_some hf
    refine xr_iald hx hb hK hP (sX_r37 g2) g3 d_E_where_32 ?_
    obtain ⟨r4, hr4, hf⟩ := xbd_some hf
    refine xc_rs (rest := []) F hT hK hP (tE_seatNumber l G c3 ad M (M (37 + 1 + v2.toNatClampNeg) v1.toNatClampNeg) r4 hr4) wl_E_153 ws_E_seatNumber wn_E wc_E_seatNumber ck_E_seatNumber ⟨rfl, rfl⟩ ⟨by decide, by decide⟩ ⟨Nat.le_refl _, Nat.le_refl _⟩ hl.1 rfl (Nat.le_of_ble_eq_true rfl) d_E_where_33 ?_
    exact xr_iret hx hb hr hlk (Option.some.inj hf) d_E_where_36
  have K18 : ∀ (v1 v2 : Int32) (ls : Array Slot), lv_has ls 3 [(0, .ref (ad 0)), (1, .int v1), (2, .int v2)] → fE_where_18 v1 v2 M = some out → W p l e (rm0_ 2 41) s m args below meth c s.heap [] 0 0 (MQ below (QcRead out) args s 0 0 (fun _ => False)) (F0 m 18 ls []) := by
    intro v1 v2 ls  hl hf
    unfold fE_where_18 at hf
    refine lv_iconst (v := 0) hx hb d_E_where_18 rfl ?_
    exact K19 v1 v2 0 _  hl hf
  unfold fE_where at hf
  refine lv_iload_n hx hb d_E_where_0 rfl (lv_at hl 1 rfl) ?_
  obtain ⟨r5, hr5, hf⟩ := xbd_some hf
  refine xc_rs (rest := []) F hT hK hP (tE_isCandidate l G c3 ad M a1 r5 hr5) wl_E_58 ws_E_isCandidate wn_E wc_E_isCandidate ck_E_isCandidate ⟨rfl, rfl⟩ ⟨by decide, by decide⟩ ⟨Nat.le_refl _, Nat.le_refl _⟩ hl.1 rfl (Nat.le_of_ble_eq_true rfl) d_E_where_1 ?_
  refine lv_if_eq (tgt := 18) hx hb d_E_where_4 rfl (fun hc => ?_) (fun hc => ?_)
  · have hf := ite_t hc hf
    exact K18 a1 a2 _  hl hf
  · have hf := ite_f hc hf
    refine lv_iload_n hx hb d_E_where_7 rfl (lv_at hl 2 rfl) ?_
    obtain ⟨r6, hr6, hf⟩ := xbd_some hf
    refine xc_rs (rest := []) F hT hK hP (tE_isSession l G c3 ad M a2 r6 hr6) wl_E_52 ws_E_isSession wn_E wc_E_isSession ck_E_isSession ⟨rfl, rfl⟩ ⟨by decide, by decide⟩ ⟨Nat.le_refl _, Nat.le_refl _⟩ hl.1 rfl (Nat.le_of_ble_eq_true rfl) d_E_where_8 ?_
    refine lv_if_eq (tgt := 18) hx hb d_E_where_11 rfl (fun hc => ?_) (fun hc => ?_)
    · have hf := ite_t hc hf
      exact K18 a1 a2 _  hl hf
    · have hf := ite_f hc hf
      refine lv_iconst (v := 1) hx hb d_E_where_14 rfl ?_
      refine lv_goto (tgt := 19) hx hb d_E_where_15 rfl ?_
      exact K19 a1 a2 1 _  hl hf
noncomputable def fE_who_33 (v1 v2 v3 v4 s33_0 : Int32) (M : Mem) : Option (Int32) := xbd (fE_mustExist s33_0) (fun _ => xgd (vp_in v1 6) (xbd (fE_placeAt v2 v3 v4) (fun r3 => xgd (vp_in r3 144) (some (M (23 + 1 + v1.toNatClampNeg) r3.toNatClampNeg)))))
noncomputable def fE_who_32 (v1 v2 v3 v4 : Int32) (M : Mem) : Option (Int32) := fE_who_33 v1 v2 v3 v4 0 M
noncomputable def fE_who (a1 a2 a3 a4 : Int32) (M : Mem) : Option (Int32) := xbd (fE_isSession a1) (fun r5 => if r5 = 0 then (fE_who_32 a1 a2 a3 a4 M) else (xbd (fE_isRoom a2) (fun r6 => if r6 = 0 then (fE_who_32 a1 a2 a3 a4 M) else (xbd (fR_hasPlace a2 a3 a4 M) (fun r7 => if r7 = 0 then (fE_who_32 a1 a2 a3 a4 M) else (fE_who_33 a1 a2 a3 a4 1 M))))))
set_option maxHeartbeats 4000000 in
set_option maxRecDepth 100000 in
theorem tE_who (l : Launch) (G : va_G) (c3 : ClassId × ClassId × ClassId) (ad : Nat → Nat) (M : Mem) (a1 a2 a3 a4 : Int32) (out : Int32) (hf : fE_who a1 a2 a3 a4 M = some out) : RMet l yE_who cE_who 5 (some .int) (rm0_ 2 44) G kl SX c3 ad M [.ref (ad 0), .int a1, .int a2, .int a3, .int a4] out := by
  refine RMet.of (by decide +kernel) (Nat.le_of_ble_eq_true rfl) (fun p e s m args below meth c ls F hT hK hP hr hlk hl => ?_)
  have hx := F.1
  have hb := F.2.1
  have F : CallFix p m c cE_who 5 s args gw RE := F
  have hown := F.2.2.2.1
  have hl : lv_has ls 5 [(0, .ref (ad 0)), (1, .int a1), (2, .int a2), (3, .int a3), (4, .int a4)] := hl
  have K33 : ∀ (v1 v2 v3 v4 s33_0 : Int32) (ls : Array Slot), lv_has ls 5 [(0, .ref (ad 0)), (1, .int v1), (2, .int v2), (3, .int v3), (4, .int v4)] → fE_who_33 v1 v2 v3 v4 s33_0 M = some out → W p l e (rm0_ 2 44) s m args below meth c s.heap [] 0 0 (MQ below (QcRead out) args s 0 0 (fun _ => False)) (F0 m 33 ls [.int s33_0]) := by
    intro v1 v2 v3 v4 s33_0 ls  hl hf
    unfold fE_who_33 at hf
    obtain ⟨r1, hr1, hf⟩ := xbd_some hf
    refine xc_vs (rest := []) F hT hK hP (tE_mustExist l G c3 ad M s33_0 hr1) wl_E_34 ws_E_mustExist wn_E wc_E_mustExist ck_E_mustExist ⟨rfl, rfl⟩ ⟨by decide, by decide⟩ ⟨Nat.le_refl _, Nat.le_refl _⟩ hl.1 rfl (Nat.le_of_ble_eq_true rfl) d_E_who_33 ?_
    refine lv_aload_n hx hb d_E_who_36 rfl (lv_at hl 0 rfl) ?_
    refine xr_getr hx hb hT hown hK hP sX_0 rfl inE 1 (by decide) wf_E_19 rfl d_E_who_37 ?_
    refine xr_getr hx hb hT hown hK hP sX_18 rfl inR 4 (by decide) wf_E_157 rfl d_E_who_40 ?_
    refine lv_iload_n hx hb d_E_who_43 rfl (lv_at hl 1 rfl) ?_
    obtain ⟨g2, hf⟩ := xgd_some hf
    refine xr_aald hx hb hK hP sX_23 g2 d_E_who_44 ?_
    refine lv_iload_n hx hb d_E_who_45 rfl (lv_at hl 2 rfl) ?_
    refine lv_iload_n hx hb d_E_who_46 rfl (lv_at hl 3 rfl) ?_
    refine lv_iload hx hb d_E_who_47 (lv_at hl 4 rfl) ?_
    obtain ⟨r3, hr3, hf⟩ := xbd_some hf
    refine xc_rs (rest := [.ref (ad (23 + 1 + v1.toNatClampNeg))]) F hT hK hP (tE_placeAt l G c3 ad M v2 v3 v4 r3 hr3) wl_E_115 ws_E_placeAt wn_E wc_E_placeAt ck_E_placeAt ⟨rfl, rfl⟩ ⟨by decide, by decide⟩ ⟨Nat.le_refl _, Nat.le_refl _⟩ hl.1 rfl (Nat.le_of_ble_eq_true rfl) d_E_who_49 ?_
    obtain ⟨g4, hf⟩ := xgd_some hf
    refine xr_iald hx hb hK hP (sX_r23 g2) g4 d_E_who_52 ?_
    exact xr_iret hx hb hr hlk (Option.some.inj hf) d_E_who_53
  have K32 : ∀ (v1 v2 v3 v4 : Int32) (ls : Array Slot), lv_has ls 5 [(0, .ref (ad 0)), (1, .int v1), (2, .int v2), (3, .int v3), (4, .int v4)] → fE_who_32 v1 v2 v3 v4 M = some out → W p l e (rm0_ 2 44) s m args below meth c s.heap [] 0 0 (MQ below (QcRead out) args s 0 0 (fun _ => False)) (F0 m 32 ls []) := by
    intro v1 v2 v3 v4 ls  hl hf
    unfold fE_who_32 at hf
    refine lv_iconst (v := 0) hx hb d_E_who_32 rfl ?_
    exact K33 v1 v2 v3 v4 0 _  hl hf
  unfold fE_who at hf
  refine lv_iload_n hx hb d_E_who_0 rfl (lv_at hl 1 rfl) ?_
  obtain ⟨r5, hr5, hf⟩ := xbd_some hf
  refine xc_rs (rest := []) F hT hK hP (tE_isSession l G c3 ad M a1 r5 hr5) wl_E_52 ws_E_isSession wn_E wc_E_isSession ck_E_isSession ⟨rfl, rfl⟩ ⟨by decide, by decide⟩ ⟨Nat.le_refl _, Nat.le_refl _⟩ hl.1 rfl (Nat.le_of_ble_eq_true rfl) d_E_who_1 ?_
  refine lv_if_eq (tgt := 32) hx hb d_E_who_4 rfl (fun hc => ?_) (fun hc => ?_)
  · have hf := ite_t hc hf
    exact K32 a1 a2 a3 a4 _  hl hf
  · have hf := ite_f hc hf
    refine lv_iload_n hx hb d_E_who_7 rfl (lv_at hl 2 rfl) ?_
    obtain ⟨r6, hr6, hf⟩ := xbd_some hf
    refine xc_rs (rest := []) F hT hK hP (tE_isRoom l G c3 ad M a2 r6 hr6) wl_E_103 ws_E_isRoom wn_E wc_E_isRoom ck_E_isRoom ⟨rfl, rfl⟩ ⟨by decide, by decide⟩ ⟨Nat.le_refl _, Nat.le_refl _⟩ hl.1 rfl (Nat.le_of_ble_eq_true rfl) d_E_who_8 ?_
    refine lv_if_eq (tgt := 32) hx hb d_E_who_11 rfl (fun hc => ?_) (fun hc => ?_)
    · have hf := ite_t hc hf
      exact K32 a1 a2 a3 a4 _  hl hf
    · have hf := ite_f hc hf
      refine lv_aload_n hx hb d_E_who_14 rfl (lv_at hl 0 rfl) ?_
      refine xr_getr hx hb hT hown hK hP sX_0 rfl inE 1 (by decide) wf_E_19 rfl d_E_who_15 ?_
      refine lv_iload_n hx hb d_E_who_18 rfl (lv_at hl 2 rfl) ?_
      refine lv_iload_n hx hb d_E_who_19 rfl (lv_at hl 3 rfl) ?_
      refine lv_iload hx hb d_E_who_20 (lv_at hl 4 rfl) ?_
      obtain ⟨r7, hr7, hf⟩ := xbd_some hf
      refine xc_rv (rest := []) F hT hK hP (tR_hasPlace l G c3 ad M a2 a3 a4 r7 hr7) sX_18 rfl wl_E_112 wi_R_hasPlace we_R_hasPlace wn_R wc_R_hasPlace ck_R_hasPlace ⟨rfl, rfl⟩ ⟨by decide, by decide⟩ ⟨Nat.le_refl _, Nat.le_refl _⟩ hl.1 rfl (Nat.le_of_ble_eq_true rfl) d_E_who_22 ?_
      refine lv_if_eq (tgt := 32) hx hb d_E_who_25 rfl (fun hc => ?_) (fun hc => ?_)
      · have hf := ite_t hc hf
        exact K32 a1 a2 a3 a4 _  hl hf
      · have hf := ite_f hc hf
        refine lv_iconst (v := 1) hx hb d_E_who_28 rfl ?_
        refine lv_goto (tgt := 33) hx hb d_E_who_29 rfl ?_
        exact K33 a1 a2 a3 a4 1 _  hl hf
noncomputable def fE_isInvigilator (a0 : Int32) : Option (Int32) := xbd (fE_isBelow a0 10) (fun r1 => xgd (r1 = 0 ∨ r1 = 1) (some r1))
set_option maxHeartbeats 4000000 in
set_option maxRecDepth 100000 in
theorem tE_isInvigilator (l : Launch) (G : va_G) (c3 : ClassId × ClassId × ClassId) (ad : Nat → Nat) (M : Mem) (a0 : Int32) (out : Int32) (hf : fE_isInvigilator a0 = some out) : RMet l yE_isInvigilator cE_isInvigilator 1 (some .boolean) (rm0_ 1 21) G kl SX c3 ad M [.int a0] out := by
  refine RMet.of (by decide +kernel) (Nat.le_of_ble_eq_true rfl) (fun p e s m args below meth c ls F hT hK hP hr hlk hl => ?_)
  have hx := F.1
  have hb := F.2.1
  have F : CallFix p m c cE_isInvigilator 1 s args gw RE := F
  have hown := F.2.2.2.1
  have hl : lv_has ls 1 [(0, .int a0)] := hl
  unfold fE_isInvigilator at hf
  refine lv_iload_n hx hb d_E_isInvigilator_0 rfl (lv_at hl 0 rfl) ?_
  refine lv_bipush (v := 10) hx hb d_E_isInvigilator_1 rfl ?_
  obtain ⟨r1, hr1, hf⟩ := xbd_some hf
  refine xc_rs (rest := []) F hT hK hP (tE_isBelow l G c3 ad M a0 10 r1 hr1) wl_E_75 ws_E_isBelow wn_E wc_E_isBelow ck_E_isBelow ⟨rfl, rfl⟩ ⟨by decide, by decide⟩ ⟨Nat.le_refl _, Nat.le_refl _⟩ hl.1 rfl (Nat.le_of_ble_eq_true rfl) d_E_isInvigilator_3 ?_
  obtain ⟨z2, hf⟩ := xgd_some hf
  exact xr_zret hx hb hr hlk z2 (Option.some.inj hf) d_E_isInvigilator_6
noncomputable def fE_most (a1 a2 : Int32) (M : Mem) : Option (Int32 × Mem) := xbd (fE_isInvigilator a1) (fun r1 => xbd (fE_mustExist r1) (fun _ => xbd (fE_isUpTo a2 6) (fun r3 => xbd (fE_mustBeAllowed r3) (fun _ => xgd (vp_in a1 10) (xlt ((M 45 a1.toNatClampNeg)) (fun x6 => xgd (vp_in a1 10) (xlt (up2 M 45 a1.toNatClampNeg a2) (fun M8 => some (x6, M8)))))))))
set_option maxHeartbeats 4000000 in
set_option maxRecDepth 100000 in
theorem tE_most (l : Launch) (G : va_G) (c3 : ClassId × ClassId × ClassId) (ad : Nat → Nat) (hd : adI SX ad) (M : Mem) (a1 a2 : Int32) (o1 : Int32) (o2 : Mem) (hf : fE_most a1 a2 M = some (o1, o2)) : WMet l yE_most cE_most 4 (some .int) (rm0_ 2 41) G kl SX c3 ad M [.ref (ad 0), .int a1, .int a2] (some (.int o1)) o2 := by
  generalize hout : (o1, o2) = out at hf
  obtain rfl : out.1 = o1 := by rw [← hout]
  obtain rfl : out.2 = o2 := by rw [← hout]
  clear hout
  refine WMet.of (by decide +kernel) (Nat.le_of_ble_eq_true rfl) (fun p e s m args below meth c ls F hT hK hP hr hlk hl hS => ?_)
  have hx := F.1
  have hb := F.2.1
  have F : CallFix p m c cE_most 4 s args gw RE := F
  have hown := F.2.2.2.1
  have hl : lv_has ls 4 [(0, .ref (ad 0)), (1, .int a1), (2, .int a2)] := hl
  revert hP hS
  suffices hall : ∀ (H : Heap) (locs : List Loc), va_P G kl (wd SX c3 ad M) H → va_S (adA SX ad) s.heap H locs → W p l e (rm0_ 2 41) s m args below meth c H locs 0 0 (MQ below (QW G kl SX c3 ad (some (.int out.1)) out.2) args s 0 0 (adA SX ad)) (F0 m 0 ls []) from hall s.heap []
  intro H locs hP hS
  unfold fE_most at hf
  refine lv_iload_n hx hb d_E_most_0 rfl (lv_at hl 1 rfl) ?_
  obtain ⟨r1, hr1, hf⟩ := xbd_some hf
  refine xc_rs (rest := []) F hT hK hP (tE_isInvigilator l G c3 ad M a1 r1 hr1) wl_E_160 ws_E_isInvigilator wn_E wc_E_isInvigilator ck_E_isInvigilator ⟨rfl, rfl⟩ ⟨by decide, by decide⟩ ⟨Nat.le_refl _, Nat.le_refl _⟩ hl.1 rfl (Nat.le_of_ble_eq_true rfl) d_E_most_1 ?_
  obtain ⟨r2, hr2, hf⟩ := xbd_some hf
  refine xc_vs (rest := []) F hT hK hP (tE_mustExist l G c3 ad M r1 hr2) wl_E_34 ws_E_mustExist wn_E wc_E_mustExist ck_E_mustExist ⟨rfl, rfl⟩ ⟨by decide, by decide⟩ ⟨Nat.le_refl _, Nat.le_refl _⟩ hl.1 rfl (Nat.le_of_ble_eq_true rfl) d_E_most_4 ?_
  refine lv_iload_n hx hb d_E_most_7 rfl (lv_at hl 2 rfl) ?_
  refine lv_bipush (v := 6) hx hb d_E_most_8 rfl ?_
  obtain ⟨r3, hr3, hf⟩ := xbd_some hf
  refine xc_rs (rest := []) F hT hK hP (tE_isUpTo l G c3 ad M a2 6 r3 hr3) wl_E_38 ws_E_isUpTo wn_E wc_E_isUpTo ck_E_isUpTo ⟨rfl, rfl⟩ ⟨by decide, by decide⟩ ⟨Nat.le_refl _, Nat.le_refl _⟩ hl.1 rfl (Nat.le_of_ble_eq_true rfl) d_E_most_10 ?_
  obtain ⟨r4, hr4, hf⟩ := xbd_some hf
  refine xc_vs (rest := []) F hT hK hP (tE_mustBeAllowed l G c3 ad M r3 hr4) wl_E_42 ws_E_mustBeAllowed wn_E wc_E_mustBeAllowed ck_E_mustBeAllowed ⟨rfl, rfl⟩ ⟨by decide, by decide⟩ ⟨Nat.le_refl _, Nat.le_refl _⟩ hl.1 rfl (Nat.le_of_ble_eq_true rfl) d_E_most_13 ?_
  refine lv_aload_n hx hb d_E_most_16 rfl (lv_at hl 0 rfl) ?_
  refine xr_getr hx hb hT hown hK hP sX_0 rfl inE 2 (by decide) wf_E_26 rfl d_E_most_17 ?_
  refine xr_getr hx hb hT hown hK hP sX_44 rfl inO 0 (by decide) wf_E_163 rfl d_E_most_20 ?_
  refine lv_iload_n hx hb d_E_most_23 rfl (lv_at hl 1 rfl) ?_
  obtain ⟨g5, hf⟩ := xgd_some hf
  refine xr_iald hx hb hK hP sX_45 g5 d_E_most_24 ?_
  obtain ⟨x6, hx6, hf⟩ := xlt_some hf
  refine xr_name hx6 ?_
  refine lv_istore_n (lv' := [(3, .int x6), (0, .ref (ad 0)), (1, .int a1), (2, .int a2)]) hx hb d_E_most_25 rfl hl (by decide) rfl (fun ls hl => ?_)
  refine lv_aload_n hx hb d_E_most_26 rfl (lv_at hl 1 rfl) ?_
  refine xr_getr hx hb hT hown hK hP sX_0 rfl inE 2 (by decide) wf_E_26 rfl d_E_most_27 ?_
  refine xr_getr hx hb hT hown hK hP sX_44 rfl inO 0 (by decide) wf_E_163 rfl d_E_most_30 ?_
  refine lv_iload_n hx hb d_E_most_33 rfl (lv_at hl 2 rfl) ?_
  refine lv_iload_n hx hb d_E_most_34 rfl (lv_at hl 3 rfl) ?_
  obtain ⟨g7, hf⟩ := xgd_some hf
  obtain ⟨M8, hM8, hf⟩ := xlt_some hf
  refine xr_iast hx hb hd hK hP hS sX_45 g7 d_E_most_35 (fun H locs hP hS => ?_)
  rw [hM8] at hP
  refine lv_iload_n hx hb d_E_most_36 rfl (lv_at hl 0 rfl) ?_
  exact xw_iret hx hb hr hlk hP hS (Option.some.inj hf) d_E_most_37
noncomputable def fE_own_64 (s64_0 : Int32) (M : Mem) : Option (Int32 × Mem) := xgd (s64_0 = 0 ∨ s64_0 = 1) (some (s64_0, M))
noncomputable def fE_own_19 (v1 v2 v3 s19_0 : Int32) (M : Mem) : Option (Int32 × Mem) := xbd (fE_mustExist s19_0) (fun _ => xgd (vp_in v1 10) (xlt ((M 46 v1.toNatClampNeg)) (fun x4 => xbd (fE_with x4 v2 v3) (fun r5 => xgd (vp_in v1 10) (xlt (up2 M 46 v1.toNatClampNeg r5) (fun M7 => xbd (fE_has x4 v2) (fun r8 => if r8 = v3 then (fE_own_64 0 M7) else (fE_own_64 1 M7))))))))
noncomputable def fE_own_18 (v1 v2 v3 : Int32) (M : Mem) : Option (Int32 × Mem) := fE_own_19 v1 v2 v3 0 M
noncomputable def fE_own (a1 a2 a3 : Int32) (M : Mem) : Option (Int32 × Mem) := xbd (fE_isInvigilator a1) (fun r9 => if r9 = 0 then (fE_own_18 a1 a2 a3 M) else (xbd (fE_isPaper a2) (fun r10 => if r10 = 0 then (fE_own_18 a1 a2 a3 M) else (fE_own_19 a1 a2 a3 1 M))))
set_option maxHeartbeats 4000000 in
set_option maxRecDepth 100000 in
theorem tE_own (l : Launch) (G : va_G) (c3 : ClassId × ClassId × ClassId) (ad : Nat → Nat) (hd : adI SX ad) (M : Mem) (a1 a2 a3 : Int32) (o1 : Int32) (o2 : Mem) (hf : fE_own a1 a2 a3 M = some (o1, o2)) : WMet l yE_own cE_own 5 (some .boolean) (rm0_ 2 41) G kl SX c3 ad M [.ref (ad 0), .int a1, .int a2, .int a3] (some (.int o1)) o2 := by
  generalize hout : (o1, o2) = out at hf
  obtain rfl : out.1 = o1 := by rw [← hout]
  obtain rfl : out.2 = o2 := by rw [← hout]
  clear hout
  refine WMet.of (by decide +kernel) (Nat.le_of_ble_eq_true rfl) (fun p e s m args below meth c ls F hT hK hP hr hlk hl hS => ?_)
  have hx := F.1
  have hb := F.2.1
  have F : CallFix p m c cE_own 5 s args gw RE := F
  have hown := F.2.2.2.1
  have hl : lv_has ls 5 [(0, .ref (ad 0)), (1, .int a1), (2, .int a2), (3, .int a3)] := hl
  revert hP hS
  suffices hall : ∀ (H : Heap) (locs : List Loc), va_P G kl (wd SX c3 ad M) H → va_S (adA SX ad) s.heap H locs → W p l e (rm0_ 2 41) s m args below meth c H locs 0 0 (MQ below (QW G kl SX c3 ad (some (.int out.1)) out.2) args s 0 0 (adA SX ad)) (F0 m 0 ls []) from hall s.heap []
  intro H locs hP hS
  have K64 : ∀ (s64_0 : Int32) (M : Mem) (H : Heap) (locs : List Loc) (ls : Array Slot), lv_has ls 5 [] → va_P G kl (wd SX c3 ad M) H → va_S (adA SX ad) s.heap H locs → fE_own_64 s64_0 M = some out → W p l e (rm0_ 2 41) s m args below meth c H locs 0 0 (MQ below (QW G kl SX c3 ad (some (.int out.1)) out.2) args s 0 0 (adA SX ad)) (F0 m 64 ls [.int s64_0]) := by
    intro s64_0 M H locs ls  hl hP hS hf
    unfold fE_own_64 at hf
    obtain ⟨z1, hf⟩ := xgd_some hf
    exact xw_zret hx hb hr hlk hP hS z1 (Option.some.inj hf) d_E_own_64
  have K19 : ∀ (v1 v2 v3 s19_0 : Int32) (M : Mem) (H : Heap) (locs : List Loc) (ls : Array Slot), lv_has ls 5 [(0, .ref (ad 0)), (1, .int v1), (2, .int v2), (3, .int v3)] → va_P G kl (wd SX c3 ad M) H → va_S (adA SX ad) s.heap H locs → fE_own_19 v1 v2 v3 s19_0 M = some out → W p l e (rm0_ 2 41) s m args below meth c H locs 0 0 (MQ below (QW G kl SX c3 ad (some (.int out.1)) out.2) args s 0 0 (adA SX ad)) (F0 m 19 ls [.int s19_0]) := by
    intro v1 v2 v3 s19_0 M H locs ls  hl hP hS hf
    unfold fE_own_19 at hf
    obtain ⟨r2, hr2, hf⟩ := xbd_some hf
    refine xc_vs (rest := []) F hT hK hP (tE_mustExist l G c3 ad M s19_0 hr2) wl_E_34 ws_E_mustExist wn_E wc_E_mustExist ck_E_mustExist ⟨rfl, rfl⟩ ⟨by decide, by decide⟩ ⟨Nat.le_refl _, Nat.le_refl _⟩ hl.1 rfl (Nat.le_of_ble_eq_true rfl) d_E_own_19 ?_
    refine lv_aload_n hx hb d_E_own_22 rfl (lv_at hl 0 rfl) ?_
    refine xr_getr hx hb hT hown hK hP sX_0 rfl inE 2 (by decide) wf_E_26 rfl d_E_own_23 ?_
    refine xr_getr hx hb hT hown hK hP sX_44 rfl inO 1 (by decide) wf_E_166 rfl d_E_own_26 ?_
    refine lv_iload_n hx hb d_E_own_29 rfl (lv_at hl 1 rfl) ?_
    obtain ⟨g3, hf⟩ := xgd_some hf
    refine xr_iald hx hb hK hP sX_46 g3 d_E_own_30 ?_
    obtain ⟨x4, hx4, hf⟩ := xlt_some hf
    refine xr_name hx4 ?_
    refine lv_istore (lv' := [(4, .int x4), (0, .ref (ad 0)), (1, .int v1), (2, .int v2), (3, .int v3)]) hx hb d_E_own_31 hl (by decide) rfl (fun ls hl => ?_)
    refine lv_aload_n hx hb d_E_own_33 rfl (lv_at hl 1 rfl) ?_
    refine xr_getr hx hb hT hown hK hP sX_0 rfl inE 2 (by decide) wf_E_26 rfl d_E_own_34 ?_
    refine xr_getr hx hb hT hown hK hP sX_44 rfl inO 1 (by decide) wf_E_166 rfl d_E_own_37 ?_
    refine lv_iload_n hx hb d_E_own_40 rfl (lv_at hl 2 rfl) ?_
    refine lv_iload hx hb d_E_own_41 (lv_at hl 0 rfl) ?_
    refine lv_iload_n hx hb d_E_own_43 rfl (lv_at hl 3 rfl) ?_
    refine lv_iload_n hx hb d_E_own_44 rfl (lv_at hl 4 rfl) ?_
    obtain ⟨r5, hr5, hf⟩ := xbd_some hf
    refine xc_rs (rest := [.int v1, .ref (ad 46)]) F hT hK hP (tE_with l G c3 ad M x4 v2 v3 r5 hr5) wl_E_67 ws_E_with wn_E wc_E_with ck_E_with ⟨rfl, rfl⟩ ⟨by decide, by decide⟩ ⟨Nat.le_refl _, Nat.le_refl _⟩ hl.1 rfl (Nat.le_of_ble_eq_true rfl) d_E_own_45 ?_
    obtain ⟨g6, hf⟩ := xgd_some hf
    obtain ⟨M7, hM7, hf⟩ := xlt_some hf
    refine xr_iast hx hb hd hK hP hS sX_46 g6 d_E_own_48 (fun H locs hP hS => ?_)
    rw [hM7] at hP
    refine lv_iload hx hb d_E_own_49 (lv_at hl 0 rfl) ?_
    refine lv_iload_n hx hb d_E_own_51 rfl (lv_at hl 3 rfl) ?_
    obtain ⟨r8, hr8, hf⟩ := xbd_some hf
    refine xc_rs (rest := []) F hT hK hP (tE_has l G c3 ad M7 x4 v2 r8 hr8) wl_E_64 ws_E_has wn_E wc_E_has ck_E_has ⟨rfl, rfl⟩ ⟨by decide, by decide⟩ ⟨Nat.le_refl _, Nat.le_refl _⟩ hl.1 rfl (Nat.le_of_ble_eq_true rfl) d_E_own_52 ?_
    refine lv_iload_n hx hb d_E_own_55 rfl (lv_at hl 4 rfl) ?_
    refine lv_icmp_eq (tgt := 63) hx hb d_E_own_56 rfl (fun hc => ?_) (fun hc => ?_)
    · have hf := ite_t hc hf
      refine lv_iconst (v := 0) hx hb d_E_own_63 rfl ?_
      exact K64 0 M7 _ _ _  (lv_sub hl [] rfl) hP hS hf
    · have hf := ite_f hc hf
      refine lv_iconst (v := 1) hx hb d_E_own_59 rfl ?_
      refine lv_goto (tgt := 64) hx hb d_E_own_60 rfl ?_
      exact K64 1 M7 _ _ _  (lv_sub hl [] rfl) hP hS hf
  have K18 : ∀ (v1 v2 v3 : Int32) (M : Mem) (H : Heap) (locs : List Loc) (ls : Array Slot), lv_has ls 5 [(0, .ref (ad 0)), (1, .int v1), (2, .int v2), (3, .int v3)] → va_P G kl (wd SX c3 ad M) H → va_S (adA SX ad) s.heap H locs → fE_own_18 v1 v2 v3 M = some out → W p l e (rm0_ 2 41) s m args below meth c H locs 0 0 (MQ below (QW G kl SX c3 ad (some (.int out.1)) out.2) args s 0 0 (adA SX ad)) (F0 m 18 ls []) := by
    intro v1 v2 v3 M H locs ls  hl hP hS hf
    unfold fE_own_18 at hf
    refine lv_iconst (v := 0) hx hb d_E_own_18 rfl ?_
    exact K19 v1 v2 v3 0 M _ _ _  hl hP hS hf
  unfold fE_own at hf
  refine lv_iload_n hx hb d_E_own_0 rfl (lv_at hl 1 rfl) ?_
  obtain ⟨r9, hr9, hf⟩ := xbd_some hf
  refine xc_rs (rest := []) F hT hK hP (tE_isInvigilator l G c3 ad M a1 r9 hr9) wl_E_160 ws_E_isInvigilator wn_E wc_E_isInvigilator ck_E_isInvigilator ⟨rfl, rfl⟩ ⟨by decide, by decide⟩ ⟨Nat.le_refl _, Nat.le_refl _⟩ hl.1 rfl (Nat.le_of_ble_eq_true rfl) d_E_own_1 ?_
  refine lv_if_eq (tgt := 18) hx hb d_E_own_4 rfl (fun hc => ?_) (fun hc => ?_)
  · have hf := ite_t hc hf
    exact K18 a1 a2 a3 M _ _ _  hl hP hS hf
  · have hf := ite_f hc hf
    refine lv_iload_n hx hb d_E_own_7 rfl (lv_at hl 2 rfl) ?_
    obtain ⟨r10, hr10, hf⟩ := xbd_some hf
    refine xc_rs (rest := []) F hT hK hP (tE_isPaper l G c3 ad M a2 r10 hr10) wl_E_30 ws_E_isPaper wn_E wc_E_isPaper ck_E_isPaper ⟨rfl, rfl⟩ ⟨by decide, by decide⟩ ⟨Nat.le_refl _, Nat.le_refl _⟩ hl.1 rfl (Nat.le_of_ble_eq_true rfl) d_E_own_8 ?_
    refine lv_if_eq (tgt := 18) hx hb d_E_own_11 rfl (fun hc => ?_) (fun hc => ?_)
    · have hf := ite_t hc hf
      exact K18 a1 a2 a3 M _ _ _  hl hP hS hf
    · have hf := ite_f hc hf
      refine lv_iconst (v := 1) hx hb d_E_own_14 rfl ?_
      refine lv_goto (tgt := 19) hx hb d_E_own_15 rfl ?_
      exact K19 a1 a2 a3 1 M _ _ _  hl hP hS hf
noncomputable def fO_watchesOf_55 (v2 : Int32) (M : Mem) : Option (Int32) := some v2
noncomputable def fO_watchesOf_49 (v1 v2 v3 : Int32) (M : Mem) : Option ((Int32 × Int32) ⊕ (Int32 × Int32)) := xlt (v3 + 1) (fun x1 => some (.inr (v2, x1)))
noncomputable def fO_watchesOf_41 (v1 v3 v4 s41_0 s41_1 : Int32) (M : Mem) : Option ((Int32 × Int32) ⊕ (Int32 × Int32)) := xlt ((s41_1 + s41_0)) (fun x2 => xlt (v4 + 1) (fun x3 => some (.inr (x2, x3))))
noncomputable def gO_watchesOf_13 (v1 v3 : Int32) (M : Mem) (v2 v4 : Int32) : Option ((Int32 × Int32) ⊕ (Int32 × Int32)) := if 4 ≤ v4 then (some (.inl (v2, v4))) else (xgd (vp_in v3 6) (xgd (vp_in v4 4) (xbd (fE_has (M (47 + 1 + v3.toNatClampNeg) v4.toNatClampNeg) v1) (fun r6 => if r6 = 0 then (fO_watchesOf_41 v1 v3 v4 0 v2 M) else (fO_watchesOf_41 v1 v3 v4 1 v2 M)))))
noncomputable def bO_watchesOf_13 (v1 v3 : Int32) (M : Mem) : Int32 × Int32 → Option ((Int32 × Int32) ⊕ (Int32 × Int32)) := fun st => gO_watchesOf_13 v1 v3 M st.1 st.2
noncomputable def gO_watchesOf_4 (v1 : Int32) (M : Mem) (v2 v3 : Int32) : Option ((Int32 × Int32) ⊕ (Int32 × Int32)) := if 6 ≤ v3 then (some (.inl (v2, v3))) else (xbd (xlp (bO_watchesOf_13 v1 v3 M) (v2, 0)) (fun e13 => fO_watchesOf_49 v1 e13.1 v3 M))
noncomputable def bO_watchesOf_4 (v1 : Int32) (M : Mem) : Int32 × Int32 → Option ((Int32 × Int32) ⊕ (Int32 × Int32)) := fun st => gO_watchesOf_4 v1 M st.1 st.2
noncomputable def fO_watchesOf (a1 : Int32) (M : Mem) : Option (Int32) := xbd (xlp (bO_watchesOf_4 a1 M) (0, 0)) (fun e4 => fO_watchesOf_55 e4.1 M)
set_option maxHeartbeats 4000000 in
set_option maxRecDepth 100000 in
theorem tO_watchesOf (l : Launch) (G : va_G) (c3 : ClassId × ClassId × ClassId) (ad : Nat → Nat) (M : Mem) (a1 : Int32) (out : Int32) (hf : fO_watchesOf a1 M = some out) : RMet l yO_watchesOf cO_watchesOf 5 (some .int) (rm0_ 1 21) G kl SX c3 ad M [.ref (ad 44), .int a1] out := by
  refine RMet.of (by decide +kernel) (Nat.le_of_ble_eq_true rfl) (fun p e s m args below meth c ls F hT hK hP hr hlk hl => ?_)
  have hx := F.1
  have hb := F.2.1
  have F : CallFix p m c cO_watchesOf 5 s args gw RO := F
  have hown := F.2.2.2.1
  have hl : lv_has ls 5 [(0, .ref (ad 44)), (1, .int a1)] := hl
  have K55 : ∀ (v2 : Int32) (ls : Array Slot), lv_has ls 5 [(2, .int v2)] → fO_watchesOf_55 v2 M = some out → W p l e (rm0_ 1 21) s m args below meth c s.heap [] 0 0 (MQ below (QcRead out) args s 0 0 (fun _ => False)) (F0 m 55 ls []) := by
    intro v2 ls  hl hf
    unfold fO_watchesOf_55 at hf
    refine lv_iload_n hx hb d_O_watchesOf_55 rfl (lv_at hl 0 rfl) ?_
    exact xr_iret hx hb hr hlk (Option.some.inj hf) d_O_watchesOf_56
  unfold fO_watchesOf at hf
  refine lv_iconst (v := 0) hx hb d_O_watchesOf_0 rfl ?_
  refine lv_istore_n (lv' := [(2, .int 0), (0, .ref (ad 44)), (1, .int a1)]) hx hb d_O_watchesOf_1 rfl hl (by decide) rfl (fun ls hl => ?_)
  refine lv_iconst (v := 0) hx hb d_O_watchesOf_2 rfl ?_
  refine lv_istore_n (lv' := [(3, .int 0), (2, .int 0), (0, .ref (ad 44)), (1, .int a1)]) hx hb d_O_watchesOf_3 rfl hl (by decide) rfl (fun ls hl => ?_)
  obtain ⟨e4, he4, hk4⟩ := xbd_some hf
  obtain ⟨n4, hq4⟩ := xlp_n he4
  have LH4 : ∀ (n : Nat) (v2 v3 : Int32) (ls : Array Slot), lv_has ls 5 [(0, .ref (ad 44)), (1, .int a1), (2, .int v2), (3, .int v3)] → xwh (bO_watchesOf_4 a1 M) n (v2, v3) = some e4 → W p l e (rm0_ 1 21) s m args below meth c s.heap [] 0 0 (MQ below (QcRead out) args s 0 0 (fun _ => False)) (F0 m 4 ls []) := by
    intro n
    induction n with
    | zero =>
      intro v2 v3 ls hl hn
      exact xwh_0 hn
    | succ n ih4 =>
      intro v2 v3 ls hl hn4
      obtain ⟨o4, hf, hn4⟩ := xwh_s hn4
      have hf : gO_watchesOf_4 a1 M v2 v3 = some o4 := hf
      have K49 : ∀ (v2 v3 : Int32) (ls : Array Slot), lv_has ls 5 [(0, .ref (ad 44)), (1, .int a1), (2, .int v2), (3, .int v3)] → fO_watchesOf_49 a1 v2 v3 M = some o4 → W p l e (rm0_ 1 21) s m args below meth c s.heap [] 0 0 (MQ below (QcRead out) args s 0 0 (fun _ => False)) (F0 m 49 ls []) := by
        intro v2 v3 ls  hl hf
        unfold fO_watchesOf_49 at hf
        obtain ⟨x1, hx1, hf⟩ := xlt_some hf
        refine lv_iinc (k := 3) (lv' := [(3, .int x1), (0, .ref (ad 44)), (1, .int a1), (2, .int v2)]) hx hb d_O_watchesOf_49 hl rfl hx1 (by decide) rfl (fun ls hl => ?_)
        refine lv_goto (tgt := 4) hx hb d_O_watchesOf_52 rfl ?_
        exact ih4 v2 x1 _ (lv_sub hl [1, 2, 3, 0] rfl) (xw_again hf hn4)
      unfold gO_watchesOf_4 at hf
      refine lv_iload_n hx hb d_O_watchesOf_4 rfl (lv_at hl 3 rfl) ?_
      refine lv_bipush (v := 6) hx hb d_O_watchesOf_5 rfl ?_
      refine lv_icmp_ge (tgt := 55) hx hb d_O_watchesOf_7 rfl (fun hc => ?_) (fun hc => ?_)
      · have hf := ite_t hc hf
        have he := xw_exit hf hn4
        subst he
        have hf := hk4
        exact K55 v2 _  (lv_sub hl [2] rfl) hf
      · have hf := ite_f hc hf
        refine lv_iconst (v := 0) hx hb d_O_watchesOf_10 rfl ?_
        refine lv_istore (lv' := [(4, .int 0), (0, .ref (ad 44)), (1, .int a1), (2, .int v2), (3, .int v3)]) hx hb d_O_watchesOf_11 hl (by decide) rfl (fun ls hl => ?_)
        obtain ⟨e13, he13, hk13⟩ := xbd_some hf
        obtain ⟨n13, hq13⟩ := xlp_n he13
        have LH13 : ∀ (n : Nat) (v2 v4 : Int32) (ls : Array Slot), lv_has ls 5 [(0, .ref (ad 44)), (1, .int a1), (2, .int v2), (3, .int v3), (4, .int v4)] → xwh (bO_watchesOf_13 a1 v3 M) n (v2, v4) = some e13 → W p l e (rm0_ 1 21) s m args below meth c s.heap [] 0 0 (MQ below (QcRead out) args s 0 0 (fun _ => False)) (F0 m 13 ls []) := by
          intro n
          induction n with
          | zero =>
            intro v2 v4 ls hl hn
            exact xwh_0 hn
          | succ n ih13 =>
            intro v2 v4 ls hl hn13
            obtain ⟨o13, hf, hn13⟩ := xwh_s hn13
            have hf : gO_watchesOf_13 a1 v3 M v2 v4 = some o13 := hf
            have K41 : ∀ (v4 s41_0 s41_1 : Int32) (ls : Array Slot), lv_has ls 5 [(0, .ref (ad 44)), (1, .int a1), (3, .int v3), (4, .int v4)] → fO_watchesOf_41 a1 v3 v4 s41_0 s41_1 M = some o13 → W p l e (rm0_ 1 21) s m args below meth c s.heap [] 0 0 (MQ below (QcRead out) args s 0 0 (fun _ => False)) (F0 m 41 ls [.int s41_0, .int s41_1]) := by
              intro v4 s41_0 s41_1 ls  hl hf
              unfold fO_watchesOf_41 at hf
              refine lv_iadd hx hb d_O_watchesOf_41 ?_
              obtain ⟨x2, hx2, hf⟩ := xlt_some hf
              refine xr_name hx2 ?_
              refine lv_istore_n (lv' := [(2, .int x2), (0, .ref (ad 44)), (1, .int a1), (3, .int v3), (4, .int v4)]) hx hb d_O_watchesOf_42 rfl hl (by decide) rfl (fun ls hl => ?_)
              obtain ⟨x3, hx3, hf⟩ := xlt_some hf
              refine lv_iinc (k := 4) (lv' := [(4, .int x3), (2, .int x2), (0, .ref (ad 44)), (1, .int a1), (3, .int v3)]) hx hb d_O_watchesOf_43 hl rfl hx3 (by decide) rfl (fun ls hl => ?_)
              refine lv_goto (tgt := 13) hx hb d_O_watchesOf_46 rfl ?_
              exact ih13 x2 x3 _ (lv_sub hl [2, 3, 1, 4, 0] rfl) (xw_again hf hn13)
            unfold gO_watchesOf_13 at hf
            refine lv_iload hx hb d_O_watchesOf_13 (lv_at hl 4 rfl) ?_
            refine lv_iconst (v := 4) hx hb d_O_watchesOf_15 rfl ?_
            refine lv_icmp_ge (tgt := 49) hx hb d_O_watchesOf_16 rfl (fun hc => ?_) (fun hc => ?_)
            · have hf := ite_t hc hf
              have he := xw_exit hf hn13
              subst he
              have hf := hk13
              exact K49 v2 v3 _  (lv_sub hl [0, 1, 2, 3] rfl) hf
            · have hf := ite_f hc hf
              refine lv_iload_n hx hb d_O_watchesOf_19 rfl (lv_at hl 2 rfl) ?_
              refine lv_aload_n hx hb d_O_watchesOf_20 rfl (lv_at hl 0 rfl) ?_
              refine xr_getr hx hb hT hown hK hP sX_44 rfl inO 2 (by decide) wf_O_20 rfl d_O_watchesOf_21 ?_
              refine lv_iload_n hx hb d_O_watchesOf_24 rfl (lv_at hl 3 rfl) ?_
              obtain ⟨g4, hf⟩ := xgd_some hf
              refine xr_aald hx hb hK hP sX_47 g4 d_O_watchesOf_25 ?_
              refine lv_iload hx hb d_O_watchesOf_26 (lv_at hl 4 rfl) ?_
              obtain ⟨g5, hf⟩ := xgd_some hf
              refine xr_iald hx hb hK hP (sX_r47 g4) g5 d_O_watchesOf_28 ?_
              refine lv_iload_n hx hb d_O_watchesOf_29 rfl (lv_at hl 1 rfl) ?_
              obtain ⟨r6, hr6, hf⟩ := xbd_some hf
              refine xc_rn (rest := [.int v2]) F hT hK hP (tE_has l G c3 ad M (M (47 + 1 + v3.toNatClampNeg) v4.toNatClampNeg) a1 r6 hr6) wm_O_70 ws_E_has wn_E wc_E_has ck_E_has ⟨rfl, rfl⟩ ⟨by decide, by decide⟩ ⟨Nat.le_refl _, Nat.le_refl _⟩ hl.1 rfl (Nat.le_of_ble_eq_true rfl) d_O_watchesOf_30 ?_
              refine lv_if_eq (tgt := 40) hx hb d_O_watchesOf_33 rfl (fun hc => ?_) (fun hc => ?_)
              · have hf := ite_t hc hf
                refine lv_iconst (v := 0) hx hb d_O_watchesOf_40 rfl ?_
                exact K41 v4 0 v2 _  (lv_sub hl [0, 1, 3, 4] rfl) hf
              · have hf := ite_f hc hf
                refine lv_iconst (v := 1) hx hb d_O_watchesOf_36 rfl ?_
                refine lv_goto (tgt := 41) hx hb d_O_watchesOf_37 rfl ?_
                exact K41 v4 1 v2 _  (lv_sub hl [0, 1, 3, 4] rfl) hf
        exact LH13 n13 v2 0 _ (lv_sub hl [1, 2, 3, 4, 0] rfl) hq13
  exact LH4 n4 0 0 _ (lv_sub hl [2, 3, 1, 0] rfl) hq4
noncomputable def fO_thoseWithTime_41 (v1 : Int32) (M : Mem) : Option (Int32) := some v1
noncomputable def fO_thoseWithTime_31 (v2 s31_0 s31_1 s31_2 : Int32) (M : Mem) : Option ((Int32 × Int32) ⊕ (Int32 × Int32)) := xbd (fE_with s31_2 s31_1 s31_0) (fun r1 => xlt (v2 + 1) (fun x2 => some (.inr (r1, x2))))
noncomputable def gO_thoseWithTime_4 (M : Mem) (v1 v2 : Int32) : Option ((Int32 × Int32) ⊕ (Int32 × Int32)) := if 10 ≤ v2 then (some (.inl (v1, v2))) else (xbd (fO_watchesOf v2 M) (fun r3 => xgd (vp_in v2 10) (if (M 45 v2.toNatClampNeg) ≤ r3 then (fO_thoseWithTime_31 v2 0 v2 v1 M) else (fO_thoseWithTime_31 v2 1 v2 v1 M))))
noncomputable def bO_thoseWithTime_4 (M : Mem) : Int32 × Int32 → Option ((Int32 × Int32) ⊕ (Int32 × Int32)) := fun st => gO_thoseWithTime_4 M st.1 st.2
noncomputable def fO_thoseWithTime (M : Mem) : Option (Int32) := xbd (xlp (bO_thoseWithTime_4  M) (0, 0)) (fun e4 => fO_thoseWithTime_41 e4.1 M)
set_option maxHeartbeats 4000000 in
set_option maxRecDepth 100000 in
theorem tO_thoseWithTime (l : Launch) (G : va_G) (c3 : ClassId × ClassId × ClassId) (ad : Nat → Nat) (M : Mem) (out : Int32) (hf : fO_thoseWithTime M = some out) : RMet l yO_thoseWithTime cO_thoseWithTime 3 (some .int) (rm0_ 2 45) G kl SX c3 ad M [.ref (ad 44)] out := by
  refine RMet.of (by decide +kernel) (Nat.le_of_ble_eq_true rfl) (fun p e s m args below meth c ls F hT hK hP hr hlk hl => ?_)
  have hx := F.1
  have hb := F.2.1
  have F : CallFix p m c cO_thoseWithTime 3 s args gw RO := F
  have hown := F.2.2.2.1
  have hl : lv_has ls 3 [(0, .ref (ad 44))] := hl
  have K41 : ∀ (v1 : Int32) (ls : Array Slot), lv_has ls 3 [(1, .int v1)] → fO_thoseWithTime_41 v1 M = some out → W p l e (rm0_ 2 45) s m args below meth c s.heap [] 0 0 (MQ below (QcRead out) args s 0 0 (fun _ => False)) (F0 m 41 ls []) := by
    intro v1 ls  hl hf
    unfold fO_thoseWithTime_41 at hf
    refine lv_iload_n hx hb d_O_thoseWithTime_41 rfl (lv_at hl 0 rfl) ?_
    exact xr_iret hx hb hr hlk (Option.some.inj hf) d_O_thoseWithTime_42
  unfold fO_thoseWithTime at hf
  refine lv_iconst (v := 0) hx hb d_O_thoseWithTime_0 rfl ?_
  refine lv_istore_n (lv' := [(1, .int 0), (0, .ref (ad 44))]) hx hb d_O_thoseWithTime_1 rfl hl (by decide) rfl (fun ls hl => ?_)
  refine lv_iconst (v := 0) hx hb d_O_thoseWithTime_2 rfl ?_
  refine lv_istore_n (lv' := [(2, .int 0), (1, .int 0), (0, .ref (ad 44))]) hx hb d_O_thoseWithTime_3 rfl hl (by decide) rfl (fun ls hl => ?_)
  obtain ⟨e4, he4, hk4⟩ := xbd_some hf
  obtain ⟨n4, hq4⟩ := xlp_n he4
  have LH4 : ∀ (n : Nat) (v1 v2 : Int32) (ls : Array Slot), lv_has ls 3 [(0, .ref (ad 44)), (1, .int v1), (2, .int v2)] → xwh (bO_thoseWithTime_4  M) n (v1, v2) = some e4 → W p l e (rm0_ 2 45) s m args below meth c s.heap [] 0 0 (MQ below (QcRead out) args s 0 0 (fun _ => False)) (F0 m 4 ls []) := by
    intro n
    induction n with
    | zero =>
      intro v1 v2 ls hl hn
      exact xwh_0 hn
    | succ n ih4 =>
      intro v1 v2 ls hl hn4
      obtain ⟨o4, hf, hn4⟩ := xwh_s hn4
      have hf : gO_thoseWithTime_4 M v1 v2 = some o4 := hf
      have K31 : ∀ (v2 s31_0 s31_1 s31_2 : Int32) (ls : Array Slot), lv_has ls 3 [(0, .ref (ad 44)), (2, .int v2)] → fO_thoseWithTime_31 v2 s31_0 s31_1 s31_2 M = some o4 → W p l e (rm0_ 2 45) s m args below meth c s.heap [] 0 0 (MQ below (QcRead out) args s 0 0 (fun _ => False)) (F0 m 31 ls [.int s31_0, .int s31_1, .int s31_2]) := by
        intro v2 s31_0 s31_1 s31_2 ls  hl hf
        unfold fO_thoseWithTime_31 at hf
        obtain ⟨r1, hr1, hf⟩ := xbd_some hf
        refine xc_rn (rest := []) F hT hK hP (tE_with l G c3 ad M s31_2 s31_1 s31_0 r1 hr1) wm_O_66 ws_E_with wn_E wc_E_with ck_E_with ⟨rfl, rfl⟩ ⟨by decide, by decide⟩ ⟨Nat.le_refl _, Nat.le_refl _⟩ hl.1 rfl (Nat.le_of_ble_eq_true rfl) d_O_thoseWithTime_31 ?_
        refine lv_istore_n (lv' := [(1, .int r1), (0, .ref (ad 44)), (2, .int v2)]) hx hb d_O_thoseWithTime_34 rfl hl (by decide) rfl (fun ls hl => ?_)
        obtain ⟨x2, hx2, hf⟩ := xlt_some hf
        refine lv_iinc (k := 2) (lv' := [(2, .int x2), (1, .int r1), (0, .ref (ad 44))]) hx hb d_O_thoseWithTime_35 hl rfl hx2 (by decide) rfl (fun ls hl => ?_)
        refine lv_goto (tgt := 4) hx hb d_O_thoseWithTime_38 rfl ?_
        exact ih4 r1 x2 _ (lv_sub hl [2, 1, 0] rfl) (xw_again hf hn4)
      unfold gO_thoseWithTime_4 at hf
      refine lv_iload_n hx hb d_O_thoseWithTime_4 rfl (lv_at hl 2 rfl) ?_
      refine lv_bipush (v := 10) hx hb d_O_thoseWithTime_5 rfl ?_
      refine lv_icmp_ge (tgt := 41) hx hb d_O_thoseWithTime_7 rfl (fun hc => ?_) (fun hc => ?_)
      · have hf := ite_t hc hf
        have he := xw_exit hf hn4
        subst he
        have hf := hk4
        exact K41 v1 _  (lv_sub hl [1] rfl) hf
      · have hf := ite_f hc hf
        refine lv_iload_n hx hb d_O_thoseWithTime_10 rfl (lv_at hl 1 rfl) ?_
        refine lv_iload_n hx hb d_O_thoseWithTime_11 rfl (lv_at hl 2 rfl) ?_
        refine lv_aload_n hx hb d_O_thoseWithTime_12 rfl (lv_at hl 0 rfl) ?_
        refine lv_iload_n hx hb d_O_thoseWithTime_13 rfl (lv_at hl 2 rfl) ?_
        obtain ⟨r3, hr3, hf⟩ := xbd_some hf
        refine xc_rv (rest := [.int v2, .int v1]) F hT hK hP (tO_watchesOf l G c3 ad M v2 r3 hr3) sX_44 rfl wl_O_63 wi_O_watchesOf we_O_watchesOf wn_O wc_O_watchesOf ck_O_watchesOf ⟨rfl, rfl⟩ ⟨by decide, by decide⟩ ⟨Nat.le_refl _, Nat.le_refl _⟩ hl.1 rfl (Nat.le_of_ble_eq_true rfl) d_O_thoseWithTime_14 ?_
        refine lv_aload_n hx hb d_O_thoseWithTime_17 rfl (lv_at hl 0 rfl) ?_
        refine xr_getr hx hb hT hown hK hP sX_44 rfl inO 0 (by decide) wf_O_9 rfl d_O_thoseWithTime_18 ?_
        refine lv_iload_n hx hb d_O_thoseWithTime_21 rfl (lv_at hl 2 rfl) ?_
        obtain ⟨g4, hf⟩ := xgd_some hf
        refine xr_iald hx hb hK hP sX_45 g4 d_O_thoseWithTime_22 ?_
        refine lv_icmp_ge (tgt := 30) hx hb d_O_thoseWithTime_23 rfl (fun hc => ?_) (fun hc => ?_)
        · have hf := ite_t hc hf
          refine lv_iconst (v := 0) hx hb d_O_thoseWithTime_30 rfl ?_
          exact K31 v2 0 v2 v1 _  (lv_sub hl [0, 2] rfl) hf
        · have hf := ite_f hc hf
          refine lv_iconst (v := 1) hx hb d_O_thoseWithTime_26 rfl ?_
          refine lv_goto (tgt := 31) hx hb d_O_thoseWithTime_27 rfl ?_
          exact K31 v2 1 v2 v1 _  (lv_sub hl [0, 2] rfl) hf
  exact LH4 n4 0 0 _ (lv_sub hl [2, 1, 0] rfl) hq4
noncomputable def fR_sittersIn_41 (v3 : Int32) (M : Mem) : Option (Int32) := some v3
noncomputable def fR_sittersIn_35 (v1 v2 v3 v4 : Int32) (M : Mem) : Option ((Int32 × Int32) ⊕ (Int32 × Int32)) := xlt (v4 + 1) (fun x1 => some (.inr (v3, x1)))
noncomputable def gR_sittersIn_8 (v1 v2 : Int32) (M : Mem) (v3 v4 : Int32) : Option ((Int32 × Int32) ⊕ (Int32 × Int32)) := if ((v2 + 1) * 36) ≤ v4 then (some (.inl (v3, v4))) else (xgd (vp_in v1 6) (xgd (vp_in v4 144) (if (M (23 + 1 + v1.toNatClampNeg) v4.toNatClampNeg) = (-1) then (fR_sittersIn_35 v1 v2 v3 v4 M) else (xlt (v3 + 1) (fun x4 => fR_sittersIn_35 v1 v2 x4 v4 M)))))
noncomputable def bR_sittersIn_8 (v1 v2 : Int32) (M : Mem) : Int32 × Int32 → Option ((Int32 × Int32) ⊕ (Int32 × Int32)) := fun st => gR_sittersIn_8 v1 v2 M st.1 st.2
noncomputable def fR_sittersIn (a1 a2 : Int32) (M : Mem) : Option (Int32) := xlt ((a2 * 36)) (fun x5 => xbd (xlp (bR_sittersIn_8 a1 a2 M) (0, x5)) (fun e8 => fR_sittersIn_41 e8.1 M))
set_option maxHeartbeats 4000000 in
set_option maxRecDepth 100000 in
theorem tR_sittersIn (l : Launch) (G : va_G) (c3 : ClassId × ClassId × ClassId) (ad : Nat → Nat) (M : Mem) (a1 a2 : Int32) (out : Int32) (hf : fR_sittersIn a1 a2 M = some out) : RMet l yR_sittersIn cR_sittersIn 5 (some .int) (rm0_ 0 0) G kl SX c3 ad M [.ref (ad 18), .int a1, .int a2] out := by
  refine RMet.of (by decide +kernel) (Nat.le_of_ble_eq_true rfl) (fun p e s m args below meth c ls F hT hK hP hr hlk hl => ?_)
  have hx := F.1
  have hb := F.2.1
  have F : CallFix p m c cR_sittersIn 5 s args gw RR := F
  have hown := F.2.2.2.1
  have hl : lv_has ls 5 [(0, .ref (ad 18)), (1, .int a1), (2, .int a2)] := hl
  have K41 : ∀ (v3 : Int32) (ls : Array Slot), lv_has ls 5 [(3, .int v3)] → fR_sittersIn_41 v3 M = some out → W p l e (rm0_ 0 0) s m args below meth c s.heap [] 0 0 (MQ below (QcRead out) args s 0 0 (fun _ => False)) (F0 m 41 ls []) := by
    intro v3 ls  hl hf
    unfold fR_sittersIn_41 at hf
    refine lv_iload_n hx hb d_R_sittersIn_41 rfl (lv_at hl 0 rfl) ?_
    exact xr_iret hx hb hr hlk (Option.some.inj hf) d_R_sittersIn_42
  unfold fR_sittersIn at hf
  refine lv_iconst (v := 0) hx hb d_R_sittersIn_0 rfl ?_
  refine lv_istore_n (lv' := [(3, .int 0), (0, .ref (ad 18)), (1, .int a1), (2, .int a2)]) hx hb d_R_sittersIn_1 rfl hl (by decide) rfl (fun ls hl => ?_)
  refine lv_iload_n hx hb d_R_sittersIn_2 rfl (lv_at hl 3 rfl) ?_
  refine lv_bipush (v := 36) hx hb d_R_sittersIn_3 rfl ?_
  refine lv_imul hx hb d_R_sittersIn_5 ?_
  obtain ⟨x1, hx1, hf⟩ := xlt_some hf
  refine xr_name hx1 ?_
  refine lv_istore (lv' := [(4, .int x1), (3, .int 0), (0, .ref (ad 18)), (1, .int a1), (2, .int a2)]) hx hb d_R_sittersIn_6 hl (by decide) rfl (fun ls hl => ?_)
  obtain ⟨e8, he8, hk8⟩ := xbd_some hf
  obtain ⟨n8, hq8⟩ := xlp_n he8
  have LH8 : ∀ (n : Nat) (v3 v4 : Int32) (ls : Array Slot), lv_has ls 5 [(0, .ref (ad 18)), (1, .int a1), (2, .int a2), (3, .int v3), (4, .int v4)] → xwh (bR_sittersIn_8 a1 a2 M) n (v3, v4) = some e8 → W p l e (rm0_ 0 0) s m args below meth c s.heap [] 0 0 (MQ below (QcRead out) args s 0 0 (fun _ => False)) (F0 m 8 ls []) := by
    intro n
    induction n with
    | zero =>
      intro v3 v4 ls hl hn
      exact xwh_0 hn
    | succ n ih8 =>
      intro v3 v4 ls hl hn8
      obtain ⟨o8, hf, hn8⟩ := xwh_s hn8
      have hf : gR_sittersIn_8 a1 a2 M v3 v4 = some o8 := hf
      have K35 : ∀ (v3 v4 : Int32) (ls : Array Slot), lv_has ls 5 [(0, .ref (ad 18)), (1, .int a1), (2, .int a2), (3, .int v3), (4, .int v4)] → fR_sittersIn_35 a1 a2 v3 v4 M = some o8 → W p l e (rm0_ 0 0) s m args below meth c s.heap [] 0 0 (MQ below (QcRead out) args s 0 0 (fun _ => False)) (F0 m 35 ls []) := by
        intro v3 v4 ls  hl hf
        unfold fR_sittersIn_35 at hf
        obtain ⟨x2, hx2, hf⟩ := xlt_some hf
        refine lv_iinc (k := 4) (lv' := [(4, .int x2), (0, .ref (ad 18)), (1, .int a1), (2, .int a2), (3, .int v3)]) hx hb d_R_sittersIn_35 hl rfl hx2 (by decide) rfl (fun ls hl => ?_)
        refine lv_goto (tgt := 8) hx hb d_R_sittersIn_38 rfl ?_
        exact ih8 v3 x2 _ (lv_sub hl [1, 2, 3, 4, 0] rfl) (xw_again hf hn8)
      unfold gR_sittersIn_8 at hf
      refine lv_iload hx hb d_R_sittersIn_8 (lv_at hl 4 rfl) ?_
      refine lv_iload_n hx hb d_R_sittersIn_10 rfl (lv_at hl 2 rfl) ?_
      refine lv_iconst (v := 1) hx hb d_R_sittersIn_11 rfl ?_
      refine lv_iadd hx hb d_R_sittersIn_12 ?_
      refine lv_bipush (v := 36) hx hb d_R_sittersIn_13 rfl ?_
      refine lv_imul hx hb d_R_sittersIn_15 ?_
      refine lv_icmp_ge (tgt := 41) hx hb d_R_sittersIn_16 rfl (fun hc => ?_) (fun hc => ?_)
      · have hf := ite_t hc hf
        have he := xw_exit hf hn8
        subst he
        have hf := hk8
        exact K41 v3 _  (lv_sub hl [3] rfl) hf
      · have hf := ite_f hc hf
        refine lv_aload_n hx hb d_R_sittersIn_19 rfl (lv_at hl 0 rfl) ?_
        refine xr_getr hx hb hT hown hK hP sX_18 rfl inR 4 (by decide) wf_R_27 rfl d_R_sittersIn_20 ?_
        refine lv_iload_n hx hb d_R_sittersIn_23 rfl (lv_at hl 1 rfl) ?_
        obtain ⟨g3, hf⟩ := xgd_some hf
        refine xr_aald hx hb hK hP sX_23 g3 d_R_sittersIn_24 ?_
        refine lv_iload hx hb d_R_sittersIn_25 (lv_at hl 4 rfl) ?_
        obtain ⟨g4, hf⟩ := xgd_some hf
        refine xr_iald hx hb hK hP (sX_r23 g3) g4 d_R_sittersIn_27 ?_
        refine lv_iconst (v := (-1)) hx hb d_R_sittersIn_28 rfl ?_
        refine lv_icmp_eq (tgt := 35) hx hb d_R_sittersIn_29 rfl (fun hc => ?_) (fun hc => ?_)
        · have hf := ite_t hc hf
          exact K35 v3 v4 _  hl hf
        · have hf := ite_f hc hf
          obtain ⟨x5, hx5, hf⟩ := xlt_some hf
          refine lv_iinc (k := 3) (lv' := [(3, .int x5), (0, .ref (ad 18)), (1, .int a1), (2, .int a2), (4, .int v4)]) hx hb d_R_sittersIn_32 hl rfl hx5 (by decide) rfl (fun ls hl => ?_)
          exact K35 x5 v4 _  (lv_sub hl [1, 2, 3, 0, 4] rfl) hf
  exact LH8 n8 0 x1 _ (lv_sub hl [2, 3, 4, 1, 0] rfl) hq8
noncomputable def fO_needed (a0 : Int32) : Option (Int32) := some (((a0 + 8) - 1) / 8)
set_option maxHeartbeats 4000000 in
set_option maxRecDepth 100000 in
theorem tO_needed (l : Launch) (G : va_G) (c3 : ClassId × ClassId × ClassId) (ad : Nat → Nat) (M : Mem) (a0 : Int32) (out : Int32) (hf : fO_needed a0 = some out) : RMet l yO_needed cO_needed 1 (some .int) (rm0_ 0 0) G kl SX c3 ad M [.int a0] out := by
  refine RMet.of (by decide +kernel) (Nat.le_of_ble_eq_true rfl) (fun p e s m args below meth c ls F hT hK hP hr hlk hl => ?_)
  have hx := F.1
  have hb := F.2.1
  have F : CallFix p m c cO_needed 1 s args gw RO := F
  have hown := F.2.2.2.1
  have hl : lv_has ls 1 [(0, .int a0)] := hl
  unfold fO_needed at hf
  refine lv_iload_n hx hb d_O_needed_0 rfl (lv_at hl 0 rfl) ?_
  refine lv_bipush (v := 8) hx hb d_O_needed_1 rfl ?_
  refine lv_iadd hx hb d_O_needed_3 ?_
  refine lv_iconst (v := 1) hx hb d_O_needed_4 rfl ?_
  refine lv_isub hx hb d_O_needed_5 ?_
  refine lv_bipush (v := 8) hx hb d_O_needed_6 rfl ?_
  refine lv_idiv hx hb d_O_needed_8 (by decide) ?_
  exact xr_iret hx hb hr hlk (Option.some.inj hf) d_O_needed_9
noncomputable def fR_papersIn_52 (v3 : Int32) (M : Mem) : Option (Int32) := some v3
noncomputable def fR_papersIn_46 (v1 v2 v3 v4 : Int32) (M : Mem) : Option ((Int32 × Int32) ⊕ (Int32 × Int32)) := xlt (v4 + 1) (fun x1 => some (.inr (v3, x1)))
noncomputable def gR_papersIn_8 (v1 v2 : Int32) (M : Mem) (v3 v4 : Int32) : Option ((Int32 × Int32) ⊕ (Int32 × Int32)) := if ((v2 + 1) * 36) ≤ v4 then (some (.inl (v3, v4))) else (xgd (vp_in v1 6) (xgd (vp_in v4 144) (if (M (30 + 1 + v1.toNatClampNeg) v4.toNatClampNeg) = (-1) then (fR_papersIn_46 v1 v2 v3 v4 M) else (xgd (vp_in v1 6) (xgd (vp_in v4 144) (xlt ((v3 ||| ((1 : Int32) <<< ((M (30 + 1 + v1.toNatClampNeg) v4.toNatClampNeg) &&& 31)))) (fun x6 => fR_papersIn_46 v1 v2 x6 v4 M)))))))
noncomputable def bR_papersIn_8 (v1 v2 : Int32) (M : Mem) : Int32 × Int32 → Option ((Int32 × Int32) ⊕ (Int32 × Int32)) := fun st => gR_papersIn_8 v1 v2 M st.1 st.2
noncomputable def fR_papersIn (a1 a2 : Int32) (M : Mem) : Option (Int32) := xlt ((a2 * 36)) (fun x7 => xbd (xlp (bR_papersIn_8 a1 a2 M) (0, x7)) (fun e8 => fR_papersIn_52 e8.1 M))
set_option maxHeartbeats 4000000 in
set_option maxRecDepth 100000 in
theorem tR_papersIn (l : Launch) (G : va_G) (c3 : ClassId × ClassId × ClassId) (ad : Nat → Nat) (M : Mem) (a1 a2 : Int32) (out : Int32) (hf : fR_papersIn a1 a2 M = some out) : RMet l yR_papersIn cR_papersIn 5 (some .int) (rm0_ 0 0) G kl SX c3 ad M [.ref (ad 18), .int a1, .int a2] out := by
  refine RMet.of (by decide +kernel) (Nat.le_of_ble_eq_true rfl) (fun p e s m args below meth c ls F hT hK hP hr hlk hl => ?_)
  have hx := F.1
  have hb := F.2.1
  have F : CallFix p m c cR_papersIn 5 s args gw RR := F
  have hown := F.2.2.2.1
  have hl : lv_has ls 5 [(0, .ref (ad 18)), (1, .int a1), (2, .int a2)] := hl
  have K52 : ∀ (v3 : Int32) (ls : Array Slot), lv_has ls 5 [(3, .int v3)] → fR_papersIn_52 v3 M = some out → W p l e (rm0_ 0 0) s m args below meth c s.heap [] 0 0 (MQ below (QcRead out) args s 0 0 (fun _ => False)) (F0 m 52 ls []) := by
    intro v3 ls  hl hf
    unfold fR_papersIn_52 at hf
    refine lv_iload_n hx hb d_R_papersIn_52 rfl (lv_at hl 0 rfl) ?_
    exact xr_iret hx hb hr hlk (Option.some.inj hf) d_R_papersIn_53
  unfold fR_papersIn at hf
  refine lv_iconst (v := 0) hx hb d_R_papersIn_0 rfl ?_
  refine lv_istore_n (lv' := [(3, .int 0), (0, .ref (ad 18)), (1, .int a1), (2, .int a2)]) hx hb d_R_papersIn_1 rfl hl (by decide) rfl (fun ls hl => ?_)
  refine lv_iload_n hx hb d_R_papersIn_2 rfl (lv_at hl 3 rfl) ?_
  refine lv_bipush (v := 36) hx hb d_R_papersIn_3 rfl ?_
  refine lv_imul hx hb d_R_papersIn_5 ?_
  obtain ⟨x1, hx1, hf⟩ := xlt_some hf
  refine xr_name hx1 ?_
  refine lv_istore (lv' := [(4, .int x1), (3, .int 0), (0, .ref (ad 18)), (1, .int a1), (2, .int a2)]) hx hb d_R_papersIn_6 hl (by decide) rfl (fun ls hl => ?_)
  obtain ⟨e8, he8, hk8⟩ := xbd_some hf
  obtain ⟨n8, hq8⟩ := xlp_n he8
  have LH8 : ∀ (n : Nat) (v3 v4 : Int32) (ls : Array Slot), lv_has ls 5 [(0, .ref (ad 18)), (1, .int a1), (2, .int a2), (3, .int v3), (4, .int v4)] → xwh (bR_papersIn_8 a1 a2 M) n (v3, v4) = some e8 → W p l e (rm0_ 0 0) s m args below meth c s.heap [] 0 0 (MQ below (QcRead out) args s 0 0 (fun _ => False)) (F0 m 8 ls []) := by
    intro n
    induction n with
    | zero =>
      intro v3 v4 ls hl hn
      exact xwh_0 hn
    | succ n ih8 =>
      intro v3 v4 ls hl hn8
      obtain ⟨o8, hf, hn8⟩ := xwh_s hn8
      have hf : gR_papersIn_8 a1 a2 M v3 v4 = some o8 := hf
      have K46 : ∀ (v3 v4 : Int32) (ls : Array Slot), lv_has ls 5 [(0, .ref (ad 18)), (1, .int a1), (2, .int a2), (3, .int v3), (4, .int v4)] → fR_papersIn_46 a1 a2 v3 v4 M = some o8 → W p l e (rm0_ 0 0) s m args below meth c s.heap [] 0 0 (MQ below (QcRead out) args s 0 0 (fun _ => False)) (F0 m 46 ls []) := by
        intro v3 v4 ls  hl hf
        unfold fR_papersIn_46 at hf
        obtain ⟨x2, hx2, hf⟩ := xlt_some hf
        refine lv_iinc (k := 4) (lv' := [(4, .int x2), (0, .ref (ad 18)), (1, .int a1), (2, .int a2), (3, .int v3)]) hx hb d_R_papersIn_46 hl rfl hx2 (by decide) rfl (fun ls hl => ?_)
        refine lv_goto (tgt := 8) hx hb d_R_papersIn_49 rfl ?_
        exact ih8 v3 x2 _ (lv_sub hl [1, 2, 3, 4, 0] rfl) (xw_again hf hn8)
      unfold gR_papersIn_8 at hf
      refine lv_iload hx hb d_R_papersIn_8 (lv_at hl 4 rfl) ?_
      refine lv_iload_n hx hb d_R_papersIn_10 rfl (lv_at hl 2 rfl) ?_
      refine lv_iconst (v := 1) hx hb d_R_papersIn_11 rfl ?_
      refine lv_iadd hx hb d_R_papersIn_12 ?_
      refine lv_bipush (v := 36) hx hb d_R_papersIn_13 rfl ?_
      refine lv_imul hx hb d_R_papersIn_15 ?_
      refine lv_icmp_ge (tgt := 52) hx hb d_R_papersIn_16 rfl (fun hc => ?_) (fun hc => ?_)
      · have hf := ite_t hc hf
        have he := xw_exit hf hn8
        subst he
        have hf := hk8
        exact K52 v3 _  (lv_sub hl [3] rfl) hf
      · have hf := ite_f hc hf
        refine lv_aload_n hx hb d_R_papersIn_19 rfl (lv_at hl 0 rfl) ?_
        refine xr_getr hx hb hT hown hK hP sX_18 rfl inR 5 (by decide) wf_R_30 rfl d_R_papersIn_20 ?_
        refine lv_iload_n hx hb d_R_papersIn_23 rfl (lv_at hl 1 rfl) ?_
        obtain ⟨g3, hf⟩ := xgd_some hf
        refine xr_aald hx hb hK hP sX_30 g3 d_R_papersIn_24 ?_
        refine lv_iload hx hb d_R_papersIn_25 (lv_at hl 4 rfl) ?_
        obtain ⟨g4, hf⟩ := xgd_some hf
        refine xr_iald hx hb hK hP (sX_r30 g3) g4 d_R_papersIn_27 ?_
        refine lv_iconst (v := (-1)) hx hb d_R_papersIn_28 rfl ?_
        refine lv_icmp_eq (tgt := 46) hx hb d_R_papersIn_29 rfl (fun hc => ?_) (fun hc => ?_)
        · have hf := ite_t hc hf
          exact K46 v3 v4 _  hl hf
        · have hf := ite_f hc hf
          refine lv_iload_n hx hb d_R_papersIn_32 rfl (lv_at hl 3 rfl) ?_
          refine lv_iconst (v := 1) hx hb d_R_papersIn_33 rfl ?_
          refine lv_aload_n hx hb d_R_papersIn_34 rfl (lv_at hl 0 rfl) ?_
          refine xr_getr hx hb hT hown hK hP sX_18 rfl inR 5 (by decide) wf_R_30 rfl d_R_papersIn_35 ?_
          refine lv_iload_n hx hb d_R_papersIn_38 rfl (lv_at hl 1 rfl) ?_
          obtain ⟨g5, hf⟩ := xgd_some hf
          refine xr_aald hx hb hK hP sX_30 g5 d_R_papersIn_39 ?_
          refine lv_iload hx hb d_R_papersIn_40 (lv_at hl 4 rfl) ?_
          obtain ⟨g6, hf⟩ := xgd_some hf
          refine xr_iald hx hb hK hP (sX_r30 g5) g6 d_R_papersIn_42 ?_
          refine lv_ishl hx hb d_R_papersIn_43 ?_
          refine lv_ior hx hb d_R_papersIn_44 ?_
          obtain ⟨x7, hx7, hf⟩ := xlt_some hf
          refine xr_name hx7 ?_
          refine lv_istore_n (lv' := [(3, .int x7), (0, .ref (ad 18)), (1, .int a1), (2, .int a2), (4, .int v4)]) hx hb d_R_papersIn_45 rfl hl (by decide) rfl (fun ls hl => ?_)
          exact K46 x7 v4 _  (lv_sub hl [1, 2, 3, 0, 4] rfl) hf
  exact LH8 n8 0 x1 _ (lv_sub hl [2, 3, 4, 1, 0] rfl) hq8
noncomputable def fO_thoseWithout_38 (v2 : Int32) (M : Mem) : Option (Int32) := some v2
noncomputable def fO_thoseWithout_28 (v1 v3 s28_0 s28_1 s28_2 : Int32) (M : Mem) : Option ((Int32 × Int32) ⊕ (Int32 × Int32)) := xbd (fE_with s28_2 s28_1 s28_0) (fun r1 => xlt (v3 + 1) (fun x2 => some (.inr (r1, x2))))
noncomputable def gO_thoseWithout_4 (v1 : Int32) (M : Mem) (v2 v3 : Int32) : Option ((Int32 × Int32) ⊕ (Int32 × Int32)) := if 10 ≤ v3 then (some (.inl (v2, v3))) else (xgd (vp_in v3 10) (if ((M 46 v3.toNatClampNeg) &&& v1) = 0 then (fO_thoseWithout_28 v1 v3 1 v3 v2 M) else (fO_thoseWithout_28 v1 v3 0 v3 v2 M)))
noncomputable def bO_thoseWithout_4 (v1 : Int32) (M : Mem) : Int32 × Int32 → Option ((Int32 × Int32) ⊕ (Int32 × Int32)) := fun st => gO_thoseWithout_4 v1 M st.1 st.2
noncomputable def fO_thoseWithout (a1 : Int32) (M : Mem) : Option (Int32) := xbd (xlp (bO_thoseWithout_4 a1 M) (0, 0)) (fun e4 => fO_thoseWithout_38 e4.1 M)
set_option maxHeartbeats 4000000 in
set_option maxRecDepth 100000 in
theorem tO_thoseWithout (l : Launch) (G : va_G) (c3 : ClassId × ClassId × ClassId) (ad : Nat → Nat) (M : Mem) (a1 : Int32) (out : Int32) (hf : fO_thoseWithout a1 M = some out) : RMet l yO_thoseWithout cO_thoseWithout 4 (some .int) (rm0_ 1 22) G kl SX c3 ad M [.ref (ad 44), .int a1] out := by
  refine RMet.of (by decide +kernel) (Nat.le_of_ble_eq_true rfl) (fun p e s m args below meth c ls F hT hK hP hr hlk hl => ?_)
  have hx := F.1
  have hb := F.2.1
  have F : CallFix p m c cO_thoseWithout 4 s args gw RO := F
  have hown := F.2.2.2.1
  have hl : lv_has ls 4 [(0, .ref (ad 44)), (1, .int a1)] := hl
  have K38 : ∀ (v2 : Int32) (ls : Array Slot), lv_has ls 4 [(2, .int v2)] → fO_thoseWithout_38 v2 M = some out → W p l e (rm0_ 1 22) s m args below meth c s.heap [] 0 0 (MQ below (QcRead out) args s 0 0 (fun _ => False)) (F0 m 38 ls []) := by
    intro v2 ls  hl hf
    unfold fO_thoseWithout_38 at hf
    refine lv_iload_n hx hb d_O_thoseWithout_38 rfl (lv_at hl 0 rfl) ?_
    exact xr_iret hx hb hr hlk (Option.some.inj hf) d_O_thoseWithout_39
  unfold fO_thoseWithout at hf
  refine lv_iconst (v := 0) hx hb d_O_thoseWithout_0 rfl ?_
  refine lv_istore_n (lv' := [(2, .int 0), (0, .ref (ad 44)), (1, .int a1)]) hx hb d_O_thoseWithout_1 rfl hl (by decide) rfl (fun ls hl => ?_)
  refine lv_iconst (v := 0) hx hb d_O_thoseWithout_2 rfl ?_
  refine lv_istore_n (lv' := [(3, .int 0), (2, .int 0), (0, .ref (ad 44)), (1, .int a1)]) hx hb d_O_thoseWithout_3 rfl hl (by decide) rfl (fun ls hl => ?_)
  obtain ⟨e4, he4, hk4⟩ := xbd_some hf
  obtain ⟨n4, hq4⟩ := xlp_n he4
  have LH4 : ∀ (n : Nat) (v2 v3 : Int32) (ls : Array Slot), lv_has ls 4 [(0, .ref (ad 44)), (1, .int a1), (2, .int v2), (3, .int v3)] → xwh (bO_thoseWithout_4 a1 M) n (v2, v3) = some e4 → W p l e (rm0_ 1 22) s m args below meth c s.heap [] 0 0 (MQ below (QcRead out) args s 0 0 (fun _ => False)) (F0 m 4 ls []) := by
    intro n
    induction n with
    | zero =>
      intro v2 v3 ls hl hn
      exact xwh_0 hn
    | succ n ih4 =>
      intro v2 v3 ls hl hn4
      obtain ⟨o4, hf, hn4⟩ := xwh_s hn4
      have hf : gO_thoseWithout_4 a1 M v2 v3 = some o4 := hf
      have K28 : ∀ (v3 s28_0 s28_1 s28_2 : Int32) (ls : Array Slot), lv_has ls 4 [(0, .ref (ad 44)), (1, .int a1), (3, .int v3)] → fO_thoseWithout_28 a1 v3 s28_0 s28_1 s28_2 M = some o4 → W p l e (rm0_ 1 22) s m args below meth c s.heap [] 0 0 (MQ below (QcRead out) args s 0 0 (fun _ => False)) (F0 m 28 ls [.int s28_0, .int s28_1, .int s28_2]) := by
        intro v3 s28_0 s28_1 s28_2 ls  hl hf
        unfold fO_thoseWithout_28 at hf
        obtain ⟨r1, hr1, hf⟩ := xbd_some hf
        refine xc_rn (rest := []) F hT hK hP (tE_with l G c3 ad M s28_2 s28_1 s28_0 r1 hr1) wm_O_66 ws_E_with wn_E wc_E_with ck_E_with ⟨rfl, rfl⟩ ⟨by decide, by decide⟩ ⟨Nat.le_refl _, Nat.le_refl _⟩ hl.1 rfl (Nat.le_of_ble_eq_true rfl) d_O_thoseWithout_28 ?_
        refine lv_istore_n (lv' := [(2, .int r1), (0, .ref (ad 44)), (1, .int a1), (3, .int v3)]) hx hb d_O_thoseWithout_31 rfl hl (by decide) rfl (fun ls hl => ?_)
        obtain ⟨x2, hx2, hf⟩ := xlt_some hf
        refine lv_iinc (k := 3) (lv' := [(3, .int x2), (2, .int r1), (0, .ref (ad 44)), (1, .int a1)]) hx hb d_O_thoseWithout_32 hl rfl hx2 (by decide) rfl (fun ls hl => ?_)
        refine lv_goto (tgt := 4) hx hb d_O_thoseWithout_35 rfl ?_
        exact ih4 r1 x2 _ (lv_sub hl [2, 3, 1, 0] rfl) (xw_again hf hn4)
      unfold gO_thoseWithout_4 at hf
      refine lv_iload_n hx hb d_O_thoseWithout_4 rfl (lv_at hl 3 rfl) ?_
      refine lv_bipush (v := 10) hx hb d_O_thoseWithout_5 rfl ?_
      refine lv_icmp_ge (tgt := 38) hx hb d_O_thoseWithout_7 rfl (fun hc => ?_) (fun hc => ?_)
      · have hf := ite_t hc hf
        have he := xw_exit hf hn4
        subst he
        have hf := hk4
        exact K38 v2 _  (lv_sub hl [2] rfl) hf
      · have hf := ite_f hc hf
        refine lv_iload_n hx hb d_O_thoseWithout_10 rfl (lv_at hl 2 rfl) ?_
        refine lv_iload_n hx hb d_O_thoseWithout_11 rfl (lv_at hl 3 rfl) ?_
        refine lv_aload_n hx hb d_O_thoseWithout_12 rfl (lv_at hl 0 rfl) ?_
        refine xr_getr hx hb hT hown hK hP sX_44 rfl inO 1 (by decide) wf_O_15 rfl d_O_thoseWithout_13 ?_
        refine lv_iload_n hx hb d_O_thoseWithout_16 rfl (lv_at hl 3 rfl) ?_
        obtain ⟨g3, hf⟩ := xgd_some hf
        refine xr_iald hx hb hK hP sX_46 g3 d_O_thoseWithout_17 ?_
        refine lv_iload_n hx hb d_O_thoseWithout_18 rfl (lv_at hl 1 rfl) ?_
        refine lv_iand hx hb d_O_thoseWithout_19 ?_
        refine lv_if_ne (tgt := 27) hx hb d_O_thoseWithout_20 rfl (fun hc => ?_) (fun hc => ?_)
        · have hf := ite_f hc hf
          refine lv_iconst (v := 0) hx hb d_O_thoseWithout_27 rfl ?_
          exact K28 v3 0 v3 v2 _  (lv_sub hl [0, 1, 3] rfl) hf
        · have hf := ite_t hc hf
          refine lv_iconst (v := 1) hx hb d_O_thoseWithout_23 rfl ?_
          refine lv_goto (tgt := 28) hx hb d_O_thoseWithout_24 rfl ?_
          exact K28 v3 1 v3 v2 _  (lv_sub hl [0, 1, 3] rfl) hf
  exact LH4 n4 0 0 _ (lv_sub hl [2, 3, 1, 0] rfl) hq4
noncomputable def fO_areEnough_78 (M : Mem) : Option (Int32) := xgd ((1 : Int32) = 0 ∨ (1 : Int32) = 1) (some 1)
noncomputable def fO_areEnough_61 (v1 v2 v3 v4 : Int32) (M : Mem) : Option (((Int32) ⊕ (Int32)) ⊕ (Int32)) := xbd (fJI_bitCount v3) (fun r2 => if v4 ≤ r2 then (xlt (v2 + 1) (fun x3 => some (.inr x3))) else (xgd ((0 : Int32) = 0 ∨ (0 : Int32) = 1) (some (.inl (.inl 0)))))
noncomputable def fO_areEnough_55 (v1 v2 v3 v4 v5 : Int32) (M : Mem) : Option ((Int32 × Int32 × Int32) ⊕ (Int32 × Int32 × Int32)) := xlt (v5 + 1) (fun x5 => some (.inr (v3, v4, x5)))
noncomputable def gO_areEnough_16 (v1 v2 : Int32) (M : Mem) (v3 v4 v5 : Int32) : Option ((Int32 × Int32 × Int32) ⊕ (Int32 × Int32 × Int32)) := if 4 ≤ v5 then (some (.inl (v3, v4, v5))) else (xbd (fE_has v2 v5) (fun r6 => if r6 = 0 then (fO_areEnough_55 v1 v2 v3 v4 v5 M) else (xgd (vp_in v5 4) (xlt ((v3 ||| ((M 55 v5.toNatClampNeg) &&& v1))) (fun x8 => xgd (vp_in v5 4) (xlt ((v4 + (M 54 v5.toNatClampNeg))) (fun x10 => fO_areEnough_55 v1 v2 x8 x10 v5 M)))))))
noncomputable def bO_areEnough_16 (v1 v2 : Int32) (M : Mem) : Int32 × Int32 × Int32 → Option ((Int32 × Int32 × Int32) ⊕ (Int32 × Int32 × Int32)) := fun st => gO_areEnough_16 v1 v2 M st.1 st.2.1 st.2.2
noncomputable def gO_areEnough_2 (v1 : Int32) (M : Mem) (v2 : Int32) : Option (((Int32) ⊕ (Int32)) ⊕ (Int32)) := if 16 ≤ v2 then (some (.inl (.inr v2))) else (xbd (xlp (bO_areEnough_16 v1 v2 M) (0, 0, 0)) (fun e16 => fO_areEnough_61 v1 v2 e16.1 e16.2.1 M))
noncomputable def bO_areEnough_2 (v1 : Int32) (M : Mem) : Int32 → Option (((Int32) ⊕ (Int32)) ⊕ (Int32)) := fun st => gO_areEnough_2 v1 M st
noncomputable def fO_areEnough (a1 : Int32) (M : Mem) : Option (Int32) := xbd (xlp (bO_areEnough_2 a1 M) 1) (fun e2 => Sum.elim (fun r2 => some r2) (fun t2 => fO_areEnough_78  M) e2)
set_option maxHeartbeats 4000000 in
set_option maxRecDepth 100000 in
theorem tO_areEnough (l : Launch) (G : va_G) (c3 : ClassId × ClassId × ClassId) (ad : Nat → Nat) (M : Mem) (a1 : Int32) (out : Int32) (hf : fO_areEnough a1 M = some out) : RMet l yO_areEnough cO_areEnough 6 (some .boolean) (rm0_ 1 21) G kl SX c3 ad M [.ref (ad 44), .int a1] out := by
  refine RMet.of (by decide +kernel) (Nat.le_of_ble_eq_true rfl) (fun p e s m args below meth c ls F hT hK hP hr hlk hl => ?_)
  have hx := F.1
  have hb := F.2.1
  have F : CallFix p m c cO_areEnough 6 s args gw RO := F
  have hown := F.2.2.2.1
  have hl : lv_has ls 6 [(0, .ref (ad 44)), (1, .int a1)] := hl
  have K78 : ∀ (ls : Array Slot), lv_has ls 6 [] → fO_areEnough_78  M = some out → W p l e (rm0_ 1 21) s m args below meth c s.heap [] 0 0 (MQ below (QcRead out) args s 0 0 (fun _ => False)) (F0 m 78 ls []) := by
    intro  ls  hl hf
    unfold fO_areEnough_78 at hf
    refine lv_iconst (v := 1) hx hb d_O_areEnough_78 rfl ?_
    obtain ⟨z1, hf⟩ := xgd_some hf
    exact xr_zret hx hb hr hlk z1 (Option.some.inj hf) d_O_areEnough_79
  unfold fO_areEnough at hf
  refine lv_iconst (v := 1) hx hb d_O_areEnough_0 rfl ?_
  refine lv_istore_n (lv' := [(2, .int 1), (0, .ref (ad 44)), (1, .int a1)]) hx hb d_O_areEnough_1 rfl hl (by decide) rfl (fun ls hl => ?_)
  obtain ⟨e2, he2, hk2⟩ := xbd_some hf
  obtain ⟨n2, hq2⟩ := xlp_n he2
  have LH2 : ∀ (n : Nat) (v2 : Int32) (ls : Array Slot), lv_has ls 6 [(0, .ref (ad 44)), (1, .int a1), (2, .int v2)] → xwh (bO_areEnough_2 a1 M) n v2 = some e2 → W p l e (rm0_ 1 21) s m args below meth c s.heap [] 0 0 (MQ below (QcRead out) args s 0 0 (fun _ => False)) (F0 m 2 ls []) := by
    intro n
    induction n with
    | zero =>
      intro v2 ls hl hn
      exact xwh_0 hn
    | succ n ih2 =>
      intro v2 ls hl hn2
      obtain ⟨o2, hf, hn2⟩ := xwh_s hn2
      have hf : gO_areEnough_2 a1 M v2 = some o2 := hf
      have K61 : ∀ (v2 v3 v4 : Int32) (ls : Array Slot), lv_has ls 6 [(0, .ref (ad 44)), (1, .int a1), (2, .int v2), (3, .int v3), (4, .int v4)] → fO_areEnough_61 a1 v2 v3 v4 M = some o2 → W p l e (rm0_ 1 21) s m args below meth c s.heap [] 0 0 (MQ below (QcRead out) args s 0 0 (fun _ => False)) (F0 m 61 ls []) := by
        intro v2 v3 v4 ls  hl hf
        unfold fO_areEnough_61 at hf
        refine lv_iload_n hx hb d_O_areEnough_61 rfl (lv_at hl 3 rfl) ?_
        obtain ⟨r2, hr2, hf⟩ := xbd_some hf
        refine xc_rs (rest := []) F hT hK hP (tJI_bitCount l G c3 ad M v3 r2 hr2) wl_O_74 ws_JI_bitCount wn_JI wc_JI_bitCount ck_JI_bitCount ⟨rfl, rfl⟩ ⟨by decide, by decide⟩ ⟨Nat.le_refl _, Nat.le_refl _⟩ hl.1 rfl (Nat.le_of_ble_eq_true rfl) d_O_areEnough_62 ?_
        refine lv_iload hx hb d_O_areEnough_65 (lv_at hl 4 rfl) ?_
        refine lv_icmp_ge (tgt := 72) hx hb d_O_areEnough_67 rfl (fun hc => ?_) (fun hc => ?_)
        · have hf := ite_t hc hf
          obtain ⟨x3, hx3, hf⟩ := xlt_some hf
          refine lv_iinc (k := 2) (lv' := [(2, .int x3), (0, .ref (ad 44)), (1, .int a1), (3, .int v3), (4, .int v4)]) hx hb d_O_areEnough_72 hl rfl hx3 (by decide) rfl (fun ls hl => ?_)
          refine lv_goto (tgt := 2) hx hb d_O_areEnough_75 rfl ?_
          exact ih2 x3 _ (lv_sub hl [1, 2, 0] rfl) (xw_again hf hn2)
        · have hf := ite_f hc hf
          refine lv_iconst (v := 0) hx hb d_O_areEnough_70 rfl ?_
          obtain ⟨z4, hf⟩ := xgd_some hf
          have he := xw_exit hf hn2
          subst he
          have hf := hk2
          exact xr_zret hx hb hr hlk z4 (Option.some.inj hf) d_O_areEnough_71
      unfold gO_areEnough_2 at hf
      refine lv_iload_n hx hb d_O_areEnough_2 rfl (lv_at hl 2 rfl) ?_
      refine lv_bipush (v := 16) hx hb d_O_areEnough_3 rfl ?_
      refine lv_icmp_ge (tgt := 78) hx hb d_O_areEnough_5 rfl (fun hc => ?_) (fun hc => ?_)
      · have hf := ite_t hc hf
        have he := xw_exit hf hn2
        subst he
        have hf := hk2
        exact K78  _  (lv_sub hl [] rfl) hf
      · have hf := ite_f hc hf
        refine lv_iconst (v := 0) hx hb d_O_areEnough_8 rfl ?_
        refine lv_istore_n (lv' := [(3, .int 0), (0, .ref (ad 44)), (1, .int a1), (2, .int v2)]) hx hb d_O_areEnough_9 rfl hl (by decide) rfl (fun ls hl => ?_)
        refine lv_iconst (v := 0) hx hb d_O_areEnough_10 rfl ?_
        refine lv_istore (lv' := [(4, .int 0), (3, .int 0), (0, .ref (ad 44)), (1, .int a1), (2, .int v2)]) hx hb d_O_areEnough_11 hl (by decide) rfl (fun ls hl => ?_)
        refine lv_iconst (v := 0) hx hb d_O_areEnough_13 rfl ?_
        refine lv_istore (lv' := [(5, .int 0), (4, .int 0), (3, .int 0), (0, .ref (ad 44)), (1, .int a1), (2, .int v2)]) hx hb d_O_areEnough_14 hl (by decide) rfl (fun ls hl => ?_)
        obtain ⟨e16, he16, hk16⟩ := xbd_some hf
        obtain ⟨n16, hq16⟩ := xlp_n he16
        have LH16 : ∀ (n : Nat) (v3 v4 v5 : Int32) (ls : Array Slot), lv_has ls 6 [(0, .ref (ad 44)), (1, .int a1), (2, .int v2), (3, .int v3), (4, .int v4), (5, .int v5)] → xwh (bO_areEnough_16 a1 v2 M) n (v3, v4, v5) = some e16 → W p l e (rm0_ 1 21) s m args below meth c s.heap [] 0 0 (MQ below (QcRead out) args s 0 0 (fun _ => False)) (F0 m 16 ls []) := by
          intro n
          induction n with
          | zero =>
            intro v3 v4 v5 ls hl hn
            exact xwh_0 hn
          | succ n ih16 =>
            intro v3 v4 v5 ls hl hn16
            obtain ⟨o16, hf, hn16⟩ := xwh_s hn16
            have hf : gO_areEnough_16 a1 v2 M v3 v4 v5 = some o16 := hf
            have K55 : ∀ (v3 v4 v5 : Int32) (ls : Array Slot), lv_has ls 6 [(0, .ref (ad 44)), (1, .int a1), (2, .int v2), (3, .int v3), (4, .int v4), (5, .int v5)] → fO_areEnough_55 a1 v2 v3 v4 v5 M = some o16 → W p l e (rm0_ 1 21) s m args below meth c s.heap [] 0 0 (MQ below (QcRead out) args s 0 0 (fun _ => False)) (F0 m 55 ls []) := by
              intro v3 v4 v5 ls  hl hf
              unfold fO_areEnough_55 at hf
              obtain ⟨x5, hx5, hf⟩ := xlt_some hf
              refine lv_iinc (k := 5) (lv' := [(5, .int x5), (0, .ref (ad 44)), (1, .int a1), (2, .int v2), (3, .int v3), (4, .int v4)]) hx hb d_O_areEnough_55 hl rfl hx5 (by decide) rfl (fun ls hl => ?_)
              refine lv_goto (tgt := 16) hx hb d_O_areEnough_58 rfl ?_
              exact ih16 v3 v4 x5 _ (lv_sub hl [1, 2, 3, 4, 5, 0] rfl) (xw_again hf hn16)
            unfold gO_areEnough_16 at hf
            refine lv_iload hx hb d_O_areEnough_16 (lv_at hl 5 rfl) ?_
            refine lv_iconst (v := 4) hx hb d_O_areEnough_18 rfl ?_
            refine lv_icmp_ge (tgt := 61) hx hb d_O_areEnough_19 rfl (fun hc => ?_) (fun hc => ?_)
            · have hf := ite_t hc hf
              have he := xw_exit hf hn16
              subst he
              have hf := hk16
              exact K61 v2 v3 v4 _  (lv_sub hl [0, 1, 2, 3, 4] rfl) hf
            · have hf := ite_f hc hf
              refine lv_iload_n hx hb d_O_areEnough_22 rfl (lv_at hl 2 rfl) ?_
              refine lv_iload hx hb d_O_areEnough_23 (lv_at hl 5 rfl) ?_
              obtain ⟨r6, hr6, hf⟩ := xbd_some hf
              refine xc_rn (rest := []) F hT hK hP (tE_has l G c3 ad M v2 v5 r6 hr6) wm_O_70 ws_E_has wn_E wc_E_has ck_E_has ⟨rfl, rfl⟩ ⟨by decide, by decide⟩ ⟨Nat.le_refl _, Nat.le_refl _⟩ hl.1 rfl (Nat.le_of_ble_eq_true rfl) d_O_areEnough_25 ?_
              refine lv_if_eq (tgt := 55) hx hb d_O_areEnough_28 rfl (fun hc => ?_) (fun hc => ?_)
              · have hf := ite_t hc hf
                exact K55 v3 v4 v5 _  hl hf
              · have hf := ite_f hc hf
                refine lv_iload_n hx hb d_O_areEnough_31 rfl (lv_at hl 3 rfl) ?_
                refine lv_aload_n hx hb d_O_areEnough_32 rfl (lv_at hl 0 rfl) ?_
                refine xr_getr hx hb hT hown hK hP sX_44 rfl inO 4 (by decide) wf_O_26 rfl d_O_areEnough_33 ?_
                refine lv_iload hx hb d_O_areEnough_36 (lv_at hl 5 rfl) ?_
                obtain ⟨g7, hf⟩ := xgd_some hf
                refine xr_iald hx hb hK hP sX_55 g7 d_O_areEnough_38 ?_
                refine lv_iload_n hx hb d_O_areEnough_39 rfl (lv_at hl 1 rfl) ?_
                refine lv_iand hx hb d_O_areEnough_40 ?_
                refine lv_ior hx hb d_O_areEnough_41 ?_
                obtain ⟨x8, hx8, hf⟩ := xlt_some hf
                refine xr_name hx8 ?_
                refine lv_istore_n (lv' := [(3, .int x8), (0, .ref (ad 44)), (1, .int a1), (2, .int v2), (4, .int v4), (5, .int v5)]) hx hb d_O_areEnough_42 rfl hl (by decide) rfl (fun ls hl => ?_)
                refine lv_iload hx hb d_O_areEnough_43 (lv_at hl 4 rfl) ?_
                refine lv_aload_n hx hb d_O_areEnough_45 rfl (lv_at hl 1 rfl) ?_
                refine xr_getr hx hb hT hown hK hP sX_44 rfl inO 3 (by decide) wf_O_23 rfl d_O_areEnough_46 ?_
                refine lv_iload hx hb d_O_areEnough_49 (lv_at hl 5 rfl) ?_
                obtain ⟨g9, hf⟩ := xgd_some hf
                refine xr_iald hx hb hK hP sX_54 g9 d_O_areEnough_51 ?_
                refine lv_iadd hx hb d_O_areEnough_52 ?_
                obtain ⟨x10, hx10, hf⟩ := xlt_some hf
                refine xr_name hx10 ?_
                refine lv_istore (lv' := [(4, .int x10), (3, .int x8), (0, .ref (ad 44)), (1, .int a1), (2, .int v2), (5, .int v5)]) hx hb d_O_areEnough_53 hl (by decide) rfl (fun ls hl => ?_)
                exact K55 x8 x10 v5 _  (lv_sub hl [2, 3, 4, 1, 0, 5] rfl) hf
        exact LH16 n16 0 0 0 _ (lv_sub hl [3, 4, 5, 2, 1, 0] rfl) hq16
  exact LH2 n2 1 _ (lv_sub hl [1, 2, 0] rfl) hq2
noncomputable def fO_staffRoom_115 (v4 : Int32) (M : Mem) : Option (Int32 × Mem) := some (v4, M)
noncomputable def fO_staffRoom_109 (v1 v2 v4 v5 : Int32) (M : Mem) : Option ((Int32 × Int32 × Mem) ⊕ (Int32 × Int32 × Mem)) := xlt (v5 + 1) (fun x1 => some (.inr (v4, x1, M)))
noncomputable def gO_staffRoom_6 (v1 v2 : Int32) (v4 v5 : Int32) (M : Mem) : Option ((Int32 × Int32 × Mem) ⊕ (Int32 × Int32 × Mem)) := if 10 ≤ v5 then (some (.inl (v4, v5, M))) else (xgd (vp_in v2 4) (if (M 54 v2.toNatClampNeg) ≤ 0 then (some (.inl (v4, v5, M))) else (xgd (vp_in v2 4) (xbd (fE_has (v4 &&& (M 55 v2.toNatClampNeg)) v5) (fun r4 => if r4 = 0 then (fO_staffRoom_109 v1 v2 v4 v5 M) else (xgd (vp_in v2 4) (xgd (vp_in v2 4) (xlt (up2 M 54 v2.toNatClampNeg ((M 54 v2.toNatClampNeg) - 1)) (fun M7 => xbd (fE_with v4 v5 0) (fun r8 => xbd (fO_areEnough r8 M7) (fun r9 => if r9 = 0 then (xgd (vp_in v2 4) (xgd (vp_in v2 4) (xlt (up2 M7 54 v2.toNatClampNeg ((M7 54 v2.toNatClampNeg) + 1)) (fun M12 => fO_staffRoom_109 v1 v2 v4 v5 M12)))) else (xbd (fE_with v4 v5 0) (fun r13 => xgd (vp_in v1 6) (xgd (vp_in v1 6) (xgd (vp_in v2 4) (xbd (fE_with (M7 (47 + 1 + v1.toNatClampNeg) v2.toNatClampNeg) v5 1) (fun r17 => xgd (vp_in v2 4) (xlt (up2 M7 (47 + 1 + v1.toNatClampNeg) v2.toNatClampNeg r17) (fun M19 => fO_staffRoom_109 v1 v2 r13 v5 M19)))))))))))))))))))
noncomputable def bO_staffRoom_6 (v1 v2 : Int32) : Int32 × Int32 × Mem → Option ((Int32 × Int32 × Mem) ⊕ (Int32 × Int32 × Mem)) := fun st => gO_staffRoom_6 v1 v2 st.1 st.2.1 st.2.2
noncomputable def fO_staffRoom (a1 a2 a3 : Int32) (M : Mem) : Option (Int32 × Mem) := xbd (xlp (bO_staffRoom_6 a1 a2) (a3, 0, M)) (fun e6 => fO_staffRoom_115 e6.1 e6.2.2)
set_option maxHeartbeats 4000000 in
set_option maxRecDepth 100000 in
theorem tO_staffRoom (l : Launch) (G : va_G) (c3 : ClassId × ClassId × ClassId) (ad : Nat → Nat) (hd : adI SX ad) (M : Mem) (a1 a2 a3 : Int32) (o1 : Int32) (o2 : Mem) (hf : fO_staffRoom a1 a2 a3 M = some (o1, o2)) : WMet l yO_staffRoom cO_staffRoom 6 (some .int) (rm0_ 2 46) G kl SX c3 ad M [.ref (ad 44), .int a1, .int a2, .int a3] (some (.int o1)) o2 := by
  generalize hout : (o1, o2) = out at hf
  obtain rfl : out.1 = o1 := by rw [← hout]
  obtain rfl : out.2 = o2 := by rw [← hout]
  clear hout
  refine WMet.of (by decide +kernel) (Nat.le_of_ble_eq_true rfl) (fun p e s m args below meth c ls F hT hK hP hr hlk hl hS => ?_)
  have hx := F.1
  have hb := F.2.1
  have F : CallFix p m c cO_staffRoom 6 s args gw RO := F
  have hown := F.2.2.2.1
  have hl : lv_has ls 6 [(0, .ref (ad 44)), (1, .int a1), (2, .int a2), (3, .int a3)] := hl
  revert hP hS
  suffices hall : ∀ (H : Heap) (locs : List Loc), va_P G kl (wd SX c3 ad M) H → va_S (adA SX ad) s.heap H locs → W p l e (rm0_ 2 46) s m args below meth c H locs 0 0 (MQ below (QW G kl SX c3 ad (some (.int out.1)) out.2) args s 0 0 (adA SX ad)) (F0 m 0 ls []) from hall s.heap []
  intro H locs hP hS
  have K115 : ∀ (v4 : Int32) (M : Mem) (H : Heap) (locs : List Loc) (ls : Array Slot), lv_has ls 6 [(4, .int v4)] → va_P G kl (wd SX c3 ad M) H → va_S (adA SX ad) s.heap H locs → fO_staffRoom_115 v4 M = some out → W p l e (rm0_ 2 46) s m args below meth c H locs 0 0 (MQ below (QW G kl SX c3 ad (some (.int out.1)) out.2) args s 0 0 (adA SX ad)) (F0 m 115 ls []) := by
    intro v4 M H locs ls  hl hP hS hf
    unfold fO_staffRoom_115 at hf
    refine lv_iload hx hb d_O_staffRoom_115 (lv_at hl 0 rfl) ?_
    exact xw_iret hx hb hr hlk hP hS (Option.some.inj hf) d_O_staffRoom_117
  unfold fO_staffRoom at hf
  refine lv_iload_n hx hb d_O_staffRoom_0 rfl (lv_at hl 3 rfl) ?_
  refine lv_istore (lv' := [(4, .int a3), (0, .ref (ad 44)), (1, .int a1), (2, .int a2), (3, .int a3)]) hx hb d_O_staffRoom_1 hl (by decide) rfl (fun ls hl => ?_)
  refine lv_iconst (v := 0) hx hb d_O_staffRoom_3 rfl ?_
  refine lv_istore (lv' := [(5, .int 0), (4, .int a3), (0, .ref (ad 44)), (1, .int a1), (2, .int a2), (3, .int a3)]) hx hb d_O_staffRoom_4 hl (by decide) rfl (fun ls hl => ?_)
  obtain ⟨e6, he6, hk6⟩ := xbd_some hf
  obtain ⟨n6, hq6⟩ := xlp_n he6
  have LH6 : ∀ (n : Nat) (v4 v5 : Int32) (M : Mem) (H : Heap) (locs : List Loc) (ls : Array Slot), lv_has ls 6 [(0, .ref (ad 44)), (1, .int a1), (2, .int a2), (4, .int v4), (5, .int v5)] → va_P G kl (wd SX c3 ad M) H → va_S (adA SX ad) s.heap H locs → xwh (bO_staffRoom_6 a1 a2) n (v4, v5, M) = some e6 → W p l e (rm0_ 2 46) s m args below meth c H locs 0 0 (MQ below (QW G kl SX c3 ad (some (.int out.1)) out.2) args s 0 0 (adA SX ad)) (F0 m 6 ls []) := by
    intro n
    induction n with
    | zero =>
      intro v4 v5 M H locs ls hl hP hS hn
      exact xwh_0 hn
    | succ n ih6 =>
      intro v4 v5 M H locs ls hl hP hS hn6
      obtain ⟨o6, hf, hn6⟩ := xwh_s hn6
      have hf : gO_staffRoom_6 a1 a2 v4 v5 M = some o6 := hf
      have K109 : ∀ (v4 v5 : Int32) (M : Mem) (H : Heap) (locs : List Loc) (ls : Array Slot), lv_has ls 6 [(0, .ref (ad 44)), (1, .int a1), (2, .int a2), (4, .int v4), (5, .int v5)] → va_P G kl (wd SX c3 ad M) H → va_S (adA SX ad) s.heap H locs → fO_staffRoom_109 a1 a2 v4 v5 M = some o6 → W p l e (rm0_ 2 46) s m args below meth c H locs 0 0 (MQ below (QW G kl SX c3 ad (some (.int out.1)) out.2) args s 0 0 (adA SX ad)) (F0 m 109 ls []) := by
        intro v4 v5 M H locs ls  hl hP hS hf
        unfold fO_staffRoom_109 at hf
        obtain ⟨x1, hx1, hf⟩ := xlt_some hf
        refine lv_iinc (k := 4) (lv' := [(5, .int x1), (0, .ref (ad 44)), (1, .int a1), (2, .int a2), (4, .int v4)]) hx hb d_O_staffRoom_109 hl rfl hx1 (by decide) rfl (fun ls hl => ?_)
        refine lv_goto (tgt := 6) hx hb d_O_staffRoom_112 rfl ?_
        exact ih6 v4 x1 M _ _ _ (lv_sub hl [1, 2, 3, 4, 0] rfl) hP hS (xw_again hf hn6)
      unfold gO_staffRoom_6 at hf
      refine lv_iload hx hb d_O_staffRoom_6 (lv_at hl 4 rfl) ?_
      refine lv_bipush (v := 10) hx hb d_O_staffRoom_8 rfl ?_
      refine lv_icmp_ge (tgt := 115) hx hb d_O_staffRoom_10 rfl (fun hc => ?_) (fun hc => ?_)
      · have hf := ite_t hc hf
        have he := xw_exit hf hn6
        subst he
        have hf := hk6
        exact K115 v4 M _ _ _  (lv_sub hl [3] rfl) hP hS hf
      · have hf := ite_f hc hf
        refine lv_aload_n hx hb d_O_staffRoom_13 rfl (lv_at hl 0 rfl) ?_
        refine xr_getr hx hb hT hown hK hP sX_44 rfl inO 3 (by decide) wf_O_23 rfl d_O_staffRoom_14 ?_
        refine lv_iload_n hx hb d_O_staffRoom_17 rfl (lv_at hl 2 rfl) ?_
        obtain ⟨g2, hf⟩ := xgd_some hf
        refine xr_iald hx hb hK hP sX_54 g2 d_O_staffRoom_18 ?_
        refine lv_if_le (tgt := 115) hx hb d_O_staffRoom_19 rfl (fun hc => ?_) (fun hc => ?_)
        · have hf := ite_t hc hf
          have he := xw_exit hf hn6
          subst he
          have hf := hk6
          exact K115 v4 M _ _ _  (lv_sub hl [3] rfl) hP hS hf
        · have hf := ite_f hc hf
          refine lv_iload hx hb d_O_staffRoom_22 (lv_at hl 3 rfl) ?_
          refine lv_aload_n hx hb d_O_staffRoom_24 rfl (lv_at hl 0 rfl) ?_
          refine xr_getr hx hb hT hown hK hP sX_44 rfl inO 4 (by decide) wf_O_26 rfl d_O_staffRoom_25 ?_
          refine lv_iload_n hx hb d_O_staffRoom_28 rfl (lv_at hl 2 rfl) ?_
          obtain ⟨g3, hf⟩ := xgd_some hf
          refine xr_iald hx hb hK hP sX_55 g3 d_O_staffRoom_29 ?_
          refine lv_iand hx hb d_O_staffRoom_30 ?_
          refine lv_iload hx hb d_O_staffRoom_31 (lv_at hl 4 rfl) ?_
          obtain ⟨r4, hr4, hf⟩ := xbd_some hf
          refine xc_rn (rest := []) F hT hK hP (tE_has l G c3 ad M (v4 &&& (M 55 a2.toNatClampNeg)) v5 r4 hr4) wm_O_70 ws_E_has wn_E wc_E_has ck_E_has ⟨rfl, rfl⟩ ⟨by decide, by decide⟩ ⟨Nat.le_refl _, Nat.le_refl _⟩ hl.1 rfl (Nat.le_of_ble_eq_true rfl) d_O_staffRoom_33 ?_
          refine lv_if_eq (tgt := 109) hx hb d_O_staffRoom_36 rfl (fun hc => ?_) (fun hc => ?_)
          · have hf := ite_t hc hf
            exact K109 v4 v5 M _ _ _  hl hP hS hf
          · have hf := ite_f hc hf
            refine lv_aload_n hx hb d_O_staffRoom_39 rfl (lv_at hl 0 rfl) ?_
            refine xr_getr hx hb hT hown hK hP sX_44 rfl inO 3 (by decide) wf_O_23 rfl d_O_staffRoom_40 ?_
            refine lv_iload_n hx hb d_O_staffRoom_43 rfl (lv_at hl 2 rfl) ?_
            refine lv_dup2_11 hx hb d_O_staffRoom_44 rfl rfl ?_
            obtain ⟨g5, hf⟩ := xgd_some hf
            refine xr_iald hx hb hK hP sX_54 g5 d_O_staffRoom_45 ?_
            refine lv_iconst (v := 1) hx hb d_O_staffRoom_46 rfl ?_
            refine lv_isub hx hb d_O_staffRoom_47 ?_
            obtain ⟨g6, hf⟩ := xgd_some hf
            obtain ⟨M7, hM7, hf⟩ := xlt_some hf
            refine xr_iast hx hb hd hK hP hS sX_54 g6 d_O_staffRoom_48 (fun H locs hP hS => ?_)
            rw [hM7] at hP
            refine lv_aload_n hx hb d_O_staffRoom_49 rfl (lv_at hl 0 rfl) ?_
            refine lv_iload hx hb d_O_staffRoom_50 (lv_at hl 3 rfl) ?_
            refine lv_iload hx hb d_O_staffRoom_52 (lv_at hl 4 rfl) ?_
            refine lv_iconst (v := 0) hx hb d_O_staffRoom_54 rfl ?_
            obtain ⟨r8, hr8, hf⟩ := xbd_some hf
            refine xc_rn (rest := [.ref (ad 44)]) F hT hK hP (tE_with l G c3 ad M7 v4 v5 0 r8 hr8) wm_O_66 ws_E_with wn_E wc_E_with ck_E_with ⟨rfl, rfl⟩ ⟨by decide, by decide⟩ ⟨Nat.le_refl _, Nat.le_refl _⟩ hl.1 rfl (Nat.le_of_ble_eq_true rfl) d_O_staffRoom_55 ?_
            obtain ⟨r9, hr9, hf⟩ := xbd_some hf
            refine xc_rv (rest := []) F hT hK hP (tO_areEnough l G c3 ad M7 r8 r9 hr9) sX_44 rfl wl_O_55 wi_O_areEnough we_O_areEnough wn_O wc_O_areEnough ck_O_areEnough ⟨rfl, rfl⟩ ⟨by decide, by decide⟩ ⟨Nat.le_refl _, Nat.le_refl _⟩ hl.1 rfl (Nat.le_of_ble_eq_true rfl) d_O_staffRoom_58 ?_
            refine lv_if_eq (tgt := 99) hx hb d_O_staffRoom_61 rfl (fun hc => ?_) (fun hc => ?_)
            · have hf := ite_t hc hf
              refine lv_aload_n hx hb d_O_staffRoom_99 rfl (lv_at hl 0 rfl) ?_
              refine xr_getr hx hb hT hown hK hP sX_44 rfl inO 3 (by decide) wf_O_23 rfl d_O_staffRoom_100 ?_
              refine lv_iload_n hx hb d_O_staffRoom_103 rfl (lv_at hl 2 rfl) ?_
              refine lv_dup2_11 hx hb d_O_staffRoom_104 rfl rfl ?_
              obtain ⟨g10, hf⟩ := xgd_some hf
              refine xr_iald hx hb hK hP sX_54 g10 d_O_staffRoom_105 ?_
              refine lv_iconst (v := 1) hx hb d_O_staffRoom_106 rfl ?_
              refine lv_iadd hx hb d_O_staffRoom_107 ?_
              obtain ⟨g11, hf⟩ := xgd_some hf
              obtain ⟨M12, hM12, hf⟩ := xlt_some hf
              refine xr_iast hx hb hd hK hP hS sX_54 g11 d_O_staffRoom_108 (fun H locs hP hS => ?_)
              rw [hM12] at hP
              exact K109 v4 v5 M12 _ _ _  hl hP hS hf
            · have hf := ite_f hc hf
              refine lv_iload hx hb d_O_staffRoom_64 (lv_at hl 3 rfl) ?_
              refine lv_iload hx hb d_O_staffRoom_66 (lv_at hl 4 rfl) ?_
              refine lv_iconst (v := 0) hx hb d_O_staffRoom_68 rfl ?_
              obtain ⟨r13, hr13, hf⟩ := xbd_some hf
              refine xc_rn (rest := []) F hT hK hP (tE_with l G c3 ad M7 v4 v5 0 r13 hr13) wm_O_66 ws_E_with wn_E wc_E_with ck_E_with ⟨rfl, rfl⟩ ⟨by decide, by decide⟩ ⟨Nat.le_refl _, Nat.le_refl _⟩ hl.1 rfl (Nat.le_of_ble_eq_true rfl) d_O_staffRoom_69 ?_
              refine lv_istore (lv' := [(4, .int r13), (0, .ref (ad 44)), (1, .int a1), (2, .int a2), (5, .int v5)]) hx hb d_O_staffRoom_72 hl (by decide) rfl (fun ls hl => ?_)
              refine lv_aload_n hx hb d_O_staffRoom_74 rfl (lv_at hl 1 rfl) ?_
              refine xr_getr hx hb hT hown hK hP sX_44 rfl inO 2 (by decide) wf_O_20 rfl d_O_staffRoom_75 ?_
              refine lv_iload_n hx hb d_O_staffRoom_78 rfl (lv_at hl 2 rfl) ?_
              obtain ⟨g14, hf⟩ := xgd_some hf
              refine xr_aald hx hb hK hP sX_47 g14 d_O_staffRoom_79 ?_
              refine lv_iload_n hx hb d_O_staffRoom_80 rfl (lv_at hl 3 rfl) ?_
              refine lv_aload_n hx hb d_O_staffRoom_81 rfl (lv_at hl 1 rfl) ?_
              refine xr_getr hx hb hT hown hK hP sX_44 rfl inO 2 (by decide) wf_O_20 rfl d_O_staffRoom_82 ?_
              refine lv_iload_n hx hb d_O_staffRoom_85 rfl (lv_at hl 2 rfl) ?_
              obtain ⟨g15, hf⟩ := xgd_some hf
              refine xr_aald hx hb hK hP sX_47 g15 d_O_staffRoom_86 ?_
              refine lv_iload_n hx hb d_O_staffRoom_87 rfl (lv_at hl 3 rfl) ?_
              obtain ⟨g16, hf⟩ := xgd_some hf
              refine xr_iald hx hb hK hP (sX_r47 g15) g16 d_O_staffRoom_88 ?_
              refine lv_iload hx hb d_O_staffRoom_89 (lv_at hl 4 rfl) ?_
              refine lv_iconst (v := 1) hx hb d_O_staffRoom_91 rfl ?_
              obtain ⟨r17, hr17, hf⟩ := xbd_some hf
              refine xc_rn (rest := [.int a2, .ref (ad (47 + 1 + a1.toNatClampNeg))]) F hT hK hP (tE_with l G c3 ad M7 (M7 (47 + 1 + a1.toNatClampNeg) a2.toNatClampNeg) v5 1 r17 hr17) wm_O_66 ws_E_with wn_E wc_E_with ck_E_with ⟨rfl, rfl⟩ ⟨by decide, by decide⟩ ⟨Nat.le_refl _, Nat.le_refl _⟩ hl.1 rfl (Nat.le_of_ble_eq_true rfl) d_O_staffRoom_92 ?_
              obtain ⟨g18, hf⟩ := xgd_some hf
              obtain ⟨M19, hM19, hf⟩ := xlt_some hf
              refine xr_iast hx hb hd hK hP hS (sX_r47 g14) g18 d_O_staffRoom_95 (fun H locs hP hS => ?_)
              rw [hM19] at hP
              refine lv_goto (tgt := 109) hx hb d_O_staffRoom_96 rfl ?_
              exact K109 r13 v5 M19 _ _ _  (lv_sub hl [1, 2, 3, 0, 4] rfl) hP hS hf
  exact LH6 n6 a3 0 M _ _ _ (lv_sub hl [2, 3, 4, 1, 0] rfl) hP hS hq6
noncomputable def fO_staff_99 (M : Mem) : Option (Int32 × Mem) := xgd ((1 : Int32) = 0 ∨ (1 : Int32) = 1) (some (1, M))
noncomputable def gO_staff_78 (v1 : Int32) (v3 v4 : Int32) (M : Mem) : Option ((Int32 × Int32 × Mem) ⊕ (Int32 × Int32 × Mem)) := if 4 ≤ v4 then (some (.inl (v3, v4, M))) else (xbd (fO_staffRoom v1 v4 v3 M) (fun r2 => xlt (v4 + 1) (fun x3 => some (.inr (r2.1, x3, r2.2)))))
noncomputable def bO_staff_78 (v1 : Int32) : Int32 × Int32 × Mem → Option ((Int32 × Int32 × Mem) ⊕ (Int32 × Int32 × Mem)) := fun st => gO_staff_78 v1 st.1 st.2.1 st.2.2
noncomputable def fO_staff_65 (v1 v3 : Int32) (M : Mem) : Option (Int32 × Mem) := xbd (fO_areEnough v3 M) (fun r4 => if r4 = 0 then (xgd ((0 : Int32) = 0 ∨ (0 : Int32) = 1) (some (0, M))) else (xbd (xlp (bO_staff_78 v1) (v3, 0, M)) (fun e78 => fO_staff_99  e78.2.2)))
noncomputable def gO_staff_18 (v1 v3 : Int32) (v4 : Int32) (M : Mem) : Option ((Int32 × Mem) ⊕ (Int32 × Mem)) := if 4 ≤ v4 then (some (.inl (v4, M))) else (xbd (fR_sittersIn v1 v4 M) (fun r8 => xbd (fO_needed r8) (fun r9 => xgd (vp_in v4 4) (xlt (up2 M 54 v4.toNatClampNeg r9) (fun M11 => xbd (fR_papersIn v1 v4 M11) (fun r12 => xbd (fO_thoseWithout r12 M11) (fun r13 => xgd (vp_in v4 4) (xlt (up2 M11 55 v4.toNatClampNeg r13) (fun M15 => xlt (v4 + 1) (fun x16 => some (.inr (x16, M15))))))))))))
noncomputable def bO_staff_18 (v1 v3 : Int32) : Int32 × Mem → Option ((Int32 × Mem) ⊕ (Int32 × Mem)) := fun st => gO_staff_18 v1 v3 st.1 st.2
noncomputable def fO_staff (a1 : Int32) (M : Mem) : Option (Int32 × Mem) := xgd (vp_in a1 6) (xlt (upA M (47 + 1 + a1.toNatClampNeg) 4 0) (fun M18 => xbd (fO_thoseWithTime  M18) (fun r19 => xbd (xlp (bO_staff_18 a1 r19) (0, M18)) (fun e18 => fO_staff_65 a1 r19 e18.2))))
set_option maxHeartbeats 4000000 in
set_option maxRecDepth 100000 in
theorem tO_staff (l : Launch) (G : va_G) (c3 : ClassId × ClassId × ClassId) (ad : Nat → Nat) (hd : adI SX ad) (M : Mem) (a1 : Int32) (o1 : Int32) (o2 : Mem) (hf : fO_staff a1 M = some (o1, o2)) : WMet l yO_staff cO_staff 5 (some .boolean) (rm0_ 3 71) G kl SX c3 ad M [.ref (ad 44), .int a1, .ref (ad 18)] (some (.int o1)) o2 := by
  generalize hout : (o1, o2) = out at hf
  obtain rfl : out.1 = o1 := by rw [← hout]
  obtain rfl : out.2 = o2 := by rw [← hout]
  clear hout
  refine WMet.of (by decide +kernel) (Nat.le_of_ble_eq_true rfl) (fun p e s m args below meth c ls F hT hK hP hr hlk hl hS => ?_)
  have hx := F.1
  have hb := F.2.1
  have F : CallFix p m c cO_staff 5 s args gw RO := F
  have hown := F.2.2.2.1
  have hl : lv_has ls 5 [(0, .ref (ad 44)), (1, .int a1), (2, .ref (ad 18))] := hl
  revert hP hS
  suffices hall : ∀ (H : Heap) (locs : List Loc), va_P G kl (wd SX c3 ad M) H → va_S (adA SX ad) s.heap H locs → W p l e (rm0_ 3 71) s m args below meth c H locs 0 0 (MQ below (QW G kl SX c3 ad (some (.int out.1)) out.2) args s 0 0 (adA SX ad)) (F0 m 0 ls []) from hall s.heap []
  intro H locs hP hS
  have K99 : ∀ (M : Mem) (H : Heap) (locs : List Loc) (ls : Array Slot), lv_has ls 5 [] → va_P G kl (wd SX c3 ad M) H → va_S (adA SX ad) s.heap H locs → fO_staff_99  M = some out → W p l e (rm0_ 3 71) s m args below meth c H locs 0 0 (MQ below (QW G kl SX c3 ad (some (.int out.1)) out.2) args s 0 0 (adA SX ad)) (F0 m 99 ls []) := by
    intro  M H locs ls  hl hP hS hf
    unfold fO_staff_99 at hf
    refine lv_iconst (v := 1) hx hb d_O_staff_99 rfl ?_
    obtain ⟨z1, hf⟩ := xgd_some hf
    exact xw_zret hx hb hr hlk hP hS z1 (Option.some.inj hf) d_O_staff_100
  have K65 : ∀ (v1 v3 : Int32) (M : Mem) (H : Heap) (locs : List Loc) (ls : Array Slot), lv_has ls 5 [(0, .ref (ad 44)), (1, .int v1), (3, .int v3)] → va_P G kl (wd SX c3 ad M) H → va_S (adA SX ad) s.heap H locs → fO_staff_65 v1 v3 M = some out → W p l e (rm0_ 3 71) s m args below meth c H locs 0 0 (MQ below (QW G kl SX c3 ad (some (.int out.1)) out.2) args s 0 0 (adA SX ad)) (F0 m 65 ls []) := by
    intro v1 v3 M H locs ls  hl hP hS hf
    unfold fO_staff_65 at hf
    refine lv_aload_n hx hb d_O_staff_65 rfl (lv_at hl 0 rfl) ?_
    refine lv_iload_n hx hb d_O_staff_66 rfl (lv_at hl 2 rfl) ?_
    obtain ⟨r2, hr2, hf⟩ := xbd_some hf
    refine xc_rv (rest := []) F hT hK hP (tO_areEnough l G c3 ad M v3 r2 hr2) sX_44 rfl wl_O_55 wi_O_areEnough we_O_areEnough wn_O wc_O_areEnough ck_O_areEnough ⟨rfl, rfl⟩ ⟨by decide, by decide⟩ ⟨Nat.le_refl _, Nat.le_refl _⟩ hl.1 rfl (Nat.le_of_ble_eq_true rfl) d_O_staff_67 ?_
    refine lv_if_ne (tgt := 75) hx hb d_O_staff_70 rfl (fun hc => ?_) (fun hc => ?_)
    · have hf := ite_f hc hf
      refine lv_iconst (v := 0) hx hb d_O_staff_75 rfl ?_
      refine lv_istore (lv' := [(4, .int 0), (0, .ref (ad 44)), (1, .int v1), (3, .int v3)]) hx hb d_O_staff_76 hl (by decide) rfl (fun ls hl => ?_)
      obtain ⟨e78, he78, hk78⟩ := xbd_some hf
      obtain ⟨n78, hq78⟩ := xlp_n he78
      have LH78 : ∀ (n : Nat) (v3 v4 : Int32) (M : Mem) (H : Heap) (locs : List Loc) (ls : Array Slot), lv_has ls 5 [(0, .ref (ad 44)), (1, .int v1), (3, .int v3), (4, .int v4)] → va_P G kl (wd SX c3 ad M) H → va_S (adA SX ad) s.heap H locs → xwh (bO_staff_78 v1) n (v3, v4, M) = some e78 → W p l e (rm0_ 3 71) s m args below meth c H locs 0 0 (MQ below (QW G kl SX c3 ad (some (.int out.1)) out.2) args s 0 0 (adA SX ad)) (F0 m 78 ls []) := by
        intro n
        induction n with
        | zero =>
          intro v3 v4 M H locs ls hl hP hS hn
          exact xwh_0 hn
        | succ n ih78 =>
          intro v3 v4 M H locs ls hl hP hS hn78
          obtain ⟨o78, hf, hn78⟩ := xwh_s hn78
          have hf : gO_staff_78 v1 v3 v4 M = some o78 := hf
          unfold gO_staff_78 at hf
          refine lv_iload hx hb d_O_staff_78 (lv_at hl 3 rfl) ?_
          refine lv_iconst (v := 4) hx hb d_O_staff_80 rfl ?_
          refine lv_icmp_ge (tgt := 99) hx hb d_O_staff_81 rfl (fun hc => ?_) (fun hc => ?_)
          · have hf := ite_t hc hf
            have he := xw_exit hf hn78
            subst he
            have hf := hk78
            exact K99  M _ _ _  (lv_sub hl [] rfl) hP hS hf
          · have hf := ite_f hc hf
            refine lv_aload_n hx hb d_O_staff_84 rfl (lv_at hl 0 rfl) ?_
            refine lv_iload_n hx hb d_O_staff_85 rfl (lv_at hl 1 rfl) ?_
            refine lv_iload hx hb d_O_staff_86 (lv_at hl 3 rfl) ?_
            refine lv_iload_n hx hb d_O_staff_88 rfl (lv_at hl 2 rfl) ?_
            obtain ⟨r3, hr3, hf⟩ := xbd_some hf
            refine xc_wv (rest := []) F hT hK hP hS (fun _ h => h) (tO_staffRoom l G c3 ad hd M v1 v4 v3 r3.1 r3.2 hr3) sX_44 rfl wl_O_59 wi_O_staffRoom we_O_staffRoom wn_O wc_O_staffRoom ck_O_staffRoom ⟨rfl, rfl⟩ ⟨by decide, by decide⟩ ⟨Nat.le_refl _, Nat.le_refl _⟩ hl.1 rfl (Nat.le_of_ble_eq_true rfl) d_O_staff_89 (fun H locs hP hS _ => ?_)
            refine lv_istore_n (lv' := [(3, .int r3.1), (0, .ref (ad 44)), (1, .int v1), (4, .int v4)]) hx hb d_O_staff_92 rfl hl (by decide) rfl (fun ls hl => ?_)
            obtain ⟨x4, hx4, hf⟩ := xlt_some hf
            refine lv_iinc (k := 3) (lv' := [(4, .int x4), (3, .int r3.1), (0, .ref (ad 44)), (1, .int v1)]) hx hb d_O_staff_93 hl rfl hx4 (by decide) rfl (fun ls hl => ?_)
            refine lv_goto (tgt := 78) hx hb d_O_staff_96 rfl ?_
            exact ih78 r3.1 x4 r3.2 _ _ _ (lv_sub hl [2, 3, 1, 0] rfl) hP hS (xw_again hf hn78)
      exact LH78 n78 v3 0 M _ _ _ (lv_sub hl [1, 2, 3, 0] rfl) hP hS hq78
    · have hf := ite_t hc hf
      refine lv_iconst (v := 0) hx hb d_O_staff_73 rfl ?_
      obtain ⟨z5, hf⟩ := xgd_some hf
      exact xw_zret hx hb hr hlk hP hS z5 (Option.some.inj hf) d_O_staff_74
  unfold fO_staff at hf
  refine lv_aload_n hx hb d_O_staff_0 rfl (lv_at hl 0 rfl) ?_
  refine xr_getr hx hb hT hown hK hP sX_44 rfl inO 2 (by decide) wf_O_20 rfl d_O_staff_1 ?_
  refine lv_iload_n hx hb d_O_staff_4 rfl (lv_at hl 1 rfl) ?_
  obtain ⟨g6, hf⟩ := xgd_some hf
  refine xr_aald hx hb hK hP sX_47 g6 d_O_staff_5 ?_
  refine lv_iconst (v := 0) hx hb d_O_staff_6 rfl ?_
  obtain ⟨M7, hM7, hf⟩ := xlt_some hf
  refine xc_ws (rest := []) F hT hK hP hS (fun _ h => h) (tJA_fill l G (sX_r47 g6) c3 ad hd M 0) wl_O_29 ws_JA_fill wn_JA wc_JA_fill ck_JA_fill ⟨rfl, rfl⟩ ⟨by decide, by decide⟩ ⟨by decide, by decide⟩ hl.1 rfl (Nat.le_of_ble_eq_true rfl) d_O_staff_7 (fun H locs hP hS _ => ?_)
  rw [hM7] at hP
  refine lv_aload_n hx hb d_O_staff_10 rfl (lv_at hl 0 rfl) ?_
  obtain ⟨r8, hr8, hf⟩ := xbd_some hf
  refine xc_rv (rest := []) F hT hK hP (tO_thoseWithTime l G c3 ad M7  r8 hr8) sX_44 rfl wl_O_35 wi_O_thoseWithTime we_O_thoseWithTime wn_O wc_O_thoseWithTime ck_O_thoseWithTime ⟨rfl, rfl⟩ ⟨by decide, by decide⟩ ⟨Nat.le_refl _, Nat.le_refl _⟩ hl.1 rfl (Nat.le_of_ble_eq_true rfl) d_O_staff_11 ?_
  refine lv_istore_n (lv' := [(3, .int r8), (0, .ref (ad 44)), (1, .int a1), (2, .ref (ad 18))]) hx hb d_O_staff_14 rfl hl (by decide) rfl (fun ls hl => ?_)
  refine lv_iconst (v := 0) hx hb d_O_staff_15 rfl ?_
  refine lv_istore (lv' := [(4, .int 0), (3, .int r8), (0, .ref (ad 44)), (1, .int a1), (2, .ref (ad 18))]) hx hb d_O_staff_16 hl (by decide) rfl (fun ls hl => ?_)
  obtain ⟨e18, he18, hk18⟩ := xbd_some hf
  obtain ⟨n18, hq18⟩ := xlp_n he18
  have LH18 : ∀ (n : Nat) (v4 : Int32) (M : Mem) (H : Heap) (locs : List Loc) (ls : Array Slot), lv_has ls 5 [(0, .ref (ad 44)), (1, .int a1), (2, .ref (ad 18)), (3, .int r8), (4, .int v4)] → va_P G kl (wd SX c3 ad M) H → va_S (adA SX ad) s.heap H locs → xwh (bO_staff_18 a1 r8) n (v4, M) = some e18 → W p l e (rm0_ 3 71) s m args below meth c H locs 0 0 (MQ below (QW G kl SX c3 ad (some (.int out.1)) out.2) args s 0 0 (adA SX ad)) (F0 m 18 ls []) := by
    intro n
    induction n with
    | zero =>
      intro v4 M H locs ls hl hP hS hn
      exact xwh_0 hn
    | succ n ih18 =>
      intro v4 M H locs ls hl hP hS hn18
      obtain ⟨o18, hf, hn18⟩ := xwh_s hn18
      have hf : gO_staff_18 a1 r8 v4 M = some o18 := hf
      unfold gO_staff_18 at hf
      refine lv_iload hx hb d_O_staff_18 (lv_at hl 4 rfl) ?_
      refine lv_iconst (v := 4) hx hb d_O_staff_20 rfl ?_
      refine lv_icmp_ge (tgt := 65) hx hb d_O_staff_21 rfl (fun hc => ?_) (fun hc => ?_)
      · have hf := ite_t hc hf
        have he := xw_exit hf hn18
        subst he
        have hf := hk18
        exact K65 a1 r8 M _ _ _  (lv_sub hl [0, 1, 3] rfl) hP hS hf
      · have hf := ite_f hc hf
        refine lv_aload_n hx hb d_O_staff_24 rfl (lv_at hl 0 rfl) ?_
        refine xr_getr hx hb hT hown hK hP sX_44 rfl inO 3 (by decide) wf_O_23 rfl d_O_staff_25 ?_
        refine lv_iload hx hb d_O_staff_28 (lv_at hl 4 rfl) ?_
        refine lv_aload_n hx hb d_O_staff_30 rfl (lv_at hl 2 rfl) ?_
        refine lv_iload_n hx hb d_O_staff_31 rfl (lv_at hl 1 rfl) ?_
        refine lv_iload hx hb d_O_staff_32 (lv_at hl 4 rfl) ?_
        obtain ⟨r9, hr9, hf⟩ := xbd_some hf
        refine xc_rv (rest := [.int v4, .ref (ad 54)]) F hT hK hP (tR_sittersIn l G c3 ad M a1 v4 r9 hr9) sX_18 rfl wl_O_39 wi_R_sittersIn we_R_sittersIn wn_R wc_R_sittersIn ck_R_sittersIn ⟨rfl, rfl⟩ ⟨by decide, by decide⟩ ⟨Nat.le_refl _, Nat.le_refl _⟩ hl.1 rfl (Nat.le_of_ble_eq_true rfl) d_O_staff_34 ?_
        obtain ⟨r10, hr10, hf⟩ := xbd_some hf
        refine xc_rs (rest := [.int v4, .ref (ad 54)]) F hT hK hP (tO_needed l G c3 ad M r9 r10 hr10) wl_O_45 ws_O_needed wn_O wc_O_needed ck_O_needed ⟨rfl, rfl⟩ ⟨by decide, by decide⟩ ⟨Nat.le_refl _, Nat.le_refl _⟩ hl.1 rfl (Nat.le_of_ble_eq_true rfl) d_O_staff_37 ?_
        obtain ⟨g11, hf⟩ := xgd_some hf
        obtain ⟨M12, hM12, hf⟩ := xlt_some hf
        refine xr_iast hx hb hd hK hP hS sX_54 g11 d_O_staff_40 (fun H locs hP hS => ?_)
        rw [hM12] at hP
        refine lv_aload_n hx hb d_O_staff_41 rfl (lv_at hl 0 rfl) ?_
        refine xr_getr hx hb hT hown hK hP sX_44 rfl inO 4 (by decide) wf_O_26 rfl d_O_staff_42 ?_
        refine lv_iload hx hb d_O_staff_45 (lv_at hl 4 rfl) ?_
        refine lv_aload_n hx hb d_O_staff_47 rfl (lv_at hl 0 rfl) ?_
        refine lv_aload_n hx hb d_O_staff_48 rfl (lv_at hl 2 rfl) ?_
        refine lv_iload_n hx hb d_O_staff_49 rfl (lv_at hl 1 rfl) ?_
        refine lv_iload hx hb d_O_staff_50 (lv_at hl 4 rfl) ?_
        obtain ⟨r13, hr13, hf⟩ := xbd_some hf
        refine xc_rv (rest := [.ref (ad 44), .int v4, .ref (ad 55)]) F hT hK hP (tR_papersIn l G c3 ad M12 a1 v4 r13 hr13) sX_18 rfl wl_O_49 wi_R_papersIn we_R_papersIn wn_R wc_R_papersIn ck_R_papersIn ⟨rfl, rfl⟩ ⟨by decide, by decide⟩ ⟨Nat.le_refl _, Nat.le_refl _⟩ hl.1 rfl (Nat.le_of_ble_eq_true rfl) d_O_staff_52 ?_
        obtain ⟨r14, hr14, hf⟩ := xbd_some hf
        refine xc_rv (rest := [.int v4, .ref (ad 55)]) F hT hK hP (tO_thoseWithout l G c3 ad M12 r13 r14 hr14) sX_44 rfl wl_O_52 wi_O_thoseWithout we_O_thoseWithout wn_O wc_O_thoseWithout ck_O_thoseWithout ⟨rfl, rfl⟩ ⟨by decide, by decide⟩ ⟨Nat.le_refl _, Nat.le_refl _⟩ hl.1 rfl (Nat.le_of_ble_eq_true rfl) d_O_staff_55 ?_
        obtain ⟨g15, hf⟩ := xgd_some hf
        obtain ⟨M16, hM16, hf⟩ := xlt_some hf
        refine xr_iast hx hb hd hK hP hS sX_55 g15 d_O_staff_58 (fun H locs hP hS => ?_)
        rw [hM16] at hP
        obtain ⟨x17, hx17, hf⟩ := xlt_some hf
        refine lv_iinc (k := 4) (lv' := [(4, .int x17), (0, .ref (ad 44)), (1, .int a1), (2, .ref (ad 18)), (3, .int r8)]) hx hb d_O_staff_59 hl rfl hx17 (by decide) rfl (fun ls hl => ?_)
        refine lv_goto (tgt := 18) hx hb d_O_staff_62 rfl ?_
        exact ih18 x17 M16 _ _ _ (lv_sub hl [1, 2, 3, 4, 0] rfl) hP hS (xw_again hf hn18)
  exact LH18 n18 0 M7 _ _ _ (lv_sub hl [2, 3, 4, 1, 0] rfl) hP hS hq18
noncomputable def fE_watch (a1 : Int32) (M : Mem) : Option (Int32 × Mem) := xbd (fE_isSession a1) (fun r1 => xbd (fE_mustExist r1) (fun _ => xbd (fO_staff a1 M) (fun r3 => xgd (r3.1 = 0 ∨ r3.1 = 1) (some (r3.1, r3.2)))))
set_option maxHeartbeats 4000000 in
set_option maxRecDepth 100000 in
theorem tE_watch (l : Launch) (G : va_G) (c3 : ClassId × ClassId × ClassId) (ad : Nat → Nat) (hd : adI SX ad) (M : Mem) (a1 : Int32) (o1 : Int32) (o2 : Mem) (hf : fE_watch a1 M = some (o1, o2)) : WMet l yE_watch cE_watch 2 (some .boolean) (rm0_ 4 95) G kl SX c3 ad M [.ref (ad 0), .int a1] (some (.int o1)) o2 := by
  generalize hout : (o1, o2) = out at hf
  obtain rfl : out.1 = o1 := by rw [← hout]
  obtain rfl : out.2 = o2 := by rw [← hout]
  clear hout
  refine WMet.of (by decide +kernel) (Nat.le_of_ble_eq_true rfl) (fun p e s m args below meth c ls F hT hK hP hr hlk hl hS => ?_)
  have hx := F.1
  have hb := F.2.1
  have F : CallFix p m c cE_watch 2 s args gw RE := F
  have hown := F.2.2.2.1
  have hl : lv_has ls 2 [(0, .ref (ad 0)), (1, .int a1)] := hl
  revert hP hS
  suffices hall : ∀ (H : Heap) (locs : List Loc), va_P G kl (wd SX c3 ad M) H → va_S (adA SX ad) s.heap H locs → W p l e (rm0_ 4 95) s m args below meth c H locs 0 0 (MQ below (QW G kl SX c3 ad (some (.int out.1)) out.2) args s 0 0 (adA SX ad)) (F0 m 0 ls []) from hall s.heap []
  intro H locs hP hS
  unfold fE_watch at hf
  refine lv_iload_n hx hb d_E_watch_0 rfl (lv_at hl 1 rfl) ?_
  obtain ⟨r1, hr1, hf⟩ := xbd_some hf
  refine xc_rs (rest := []) F hT hK hP (tE_isSession l G c3 ad M a1 r1 hr1) wl_E_52 ws_E_isSession wn_E wc_E_isSession ck_E_isSession ⟨rfl, rfl⟩ ⟨by decide, by decide⟩ ⟨Nat.le_refl _, Nat.le_refl _⟩ hl.1 rfl (Nat.le_of_ble_eq_true rfl) d_E_watch_1 ?_
  obtain ⟨r2, hr2, hf⟩ := xbd_some hf
  refine xc_vs (rest := []) F hT hK hP (tE_mustExist l G c3 ad M r1 hr2) wl_E_34 ws_E_mustExist wn_E wc_E_mustExist ck_E_mustExist ⟨rfl, rfl⟩ ⟨by decide, by decide⟩ ⟨Nat.le_refl _, Nat.le_refl _⟩ hl.1 rfl (Nat.le_of_ble_eq_true rfl) d_E_watch_4 ?_
  refine lv_aload_n hx hb d_E_watch_7 rfl (lv_at hl 0 rfl) ?_
  refine xr_getr hx hb hT hown hK hP sX_0 rfl inE 2 (by decide) wf_E_26 rfl d_E_watch_8 ?_
  refine lv_iload_n hx hb d_E_watch_11 rfl (lv_at hl 1 rfl) ?_
  refine lv_aload_n hx hb d_E_watch_12 rfl (lv_at hl 0 rfl) ?_
  refine xr_getr hx hb hT hown hK hP sX_0 rfl inE 1 (by decide) wf_E_19 rfl d_E_watch_13 ?_
  obtain ⟨r3, hr3, hf⟩ := xbd_some hf
  refine xc_wv (rest := []) F hT hK hP hS (fun _ h => h) (tO_staff l G c3 ad hd M a1 r3.1 r3.2 hr3) sX_44 rfl wl_E_169 wi_O_staff we_O_staff wn_O wc_O_staff ck_O_staff ⟨rfl, rfl⟩ ⟨by decide, by decide⟩ ⟨Nat.le_refl _, Nat.le_refl _⟩ hl.1 rfl (Nat.le_of_ble_eq_true rfl) d_E_watch_16 (fun H locs hP hS _ => ?_)
  obtain ⟨z4, hf⟩ := xgd_some hf
  exact xw_zret hx hb hr hlk hP hS z4 (Option.some.inj hf) d_E_watch_19
noncomputable def fO_watcherAt_47 (M : Mem) : Option (Int32) := some (-1)
noncomputable def fO_watcherAt_41 (v1 v2 v3 v4 v5 : Int32) (M : Mem) : Option (((Int32) ⊕ (Int32 × Int32)) ⊕ (Int32 × Int32)) := xlt (v5 + 1) (fun x1 => some (.inr (v4, x1)))
noncomputable def gO_watcherAt_6 (v1 v2 v3 : Int32) (M : Mem) (v4 v5 : Int32) : Option (((Int32) ⊕ (Int32 × Int32)) ⊕ (Int32 × Int32)) := if 10 ≤ v5 then (some (.inl (.inr (v4, v5)))) else (xgd (vp_in v1 6) (xgd (vp_in v2 4) (xbd (fE_has (M (47 + 1 + v1.toNatClampNeg) v2.toNatClampNeg) v5) (fun r4 => if r4 = 0 then (fO_watcherAt_41 v1 v2 v3 v4 v5 M) else (if v4 = v3 then (some (.inl (.inl v5))) else (xlt (v4 + 1) (fun x5 => fO_watcherAt_41 v1 v2 v3 x5 v5 M)))))))
noncomputable def bO_watcherAt_6 (v1 v2 v3 : Int32) (M : Mem) : Int32 × Int32 → Option (((Int32) ⊕ (Int32 × Int32)) ⊕ (Int32 × Int32)) := fun st => gO_watcherAt_6 v1 v2 v3 M st.1 st.2
noncomputable def fO_watcherAt (a1 a2 a3 : Int32) (M : Mem) : Option (Int32) := xbd (xlp (bO_watcherAt_6 a1 a2 a3 M) (0, 0)) (fun e6 => Sum.elim (fun r6 => some r6) (fun t6 => fO_watcherAt_47  M) e6)
set_option maxHeartbeats 4000000 in
set_option maxRecDepth 100000 in
theorem tO_watcherAt (l : Launch) (G : va_G) (c3 : ClassId × ClassId × ClassId) (ad : Nat → Nat) (M : Mem) (a1 a2 a3 : Int32) (out : Int32) (hf : fO_watcherAt a1 a2 a3 M = some out) : RMet l yO_watcherAt cO_watcherAt 6 (some .int) (rm0_ 1 21) G kl SX c3 ad M [.ref (ad 44), .int a1, .int a2, .int a3] out := by
  refine RMet.of (by decide +kernel) (Nat.le_of_ble_eq_true rfl) (fun p e s m args below meth c ls F hT hK hP hr hlk hl => ?_)
  have hx := F.1
  have hb := F.2.1
  have F : CallFix p m c cO_watcherAt 6 s args gw RO := F
  have hown := F.2.2.2.1
  have hl : lv_has ls 6 [(0, .ref (ad 44)), (1, .int a1), (2, .int a2), (3, .int a3)] := hl
  have K47 : ∀ (ls : Array Slot), lv_has ls 6 [] → fO_watcherAt_47  M = some out → W p l e (rm0_ 1 21) s m args below meth c s.heap [] 0 0 (MQ below (QcRead out) args s 0 0 (fun _ => False)) (F0 m 47 ls []) := by
    intro  ls  hl hf
    unfold fO_watcherAt_47 at hf
    refine lv_iconst (v := (-1)) hx hb d_O_watcherAt_47 rfl ?_
    exact xr_iret hx hb hr hlk (Option.some.inj hf) d_O_watcherAt_48
  unfold fO_watcherAt at hf
  refine lv_iconst (v := 0) hx hb d_O_watcherAt_0 rfl ?_
  refine lv_istore (lv' := [(4, .int 0), (0, .ref (ad 44)), (1, .int a1), (2, .int a2), (3, .int a3)]) hx hb d_O_watcherAt_1 hl (by decide) rfl (fun ls hl => ?_)
  refine lv_iconst (v := 0) hx hb d_O_watcherAt_3 rfl ?_
  refine lv_istore (lv' := [(5, .int 0), (4, .int 0), (0, .ref (ad 44)), (1, .int a1), (2, .int a2), (3, .int a3)]) hx hb d_O_watcherAt_4 hl (by decide) rfl (fun ls hl => ?_)
  obtain ⟨e6, he6, hk6⟩ := xbd_some hf
  obtain ⟨n6, hq6⟩ := xlp_n he6
  have LH6 : ∀ (n : Nat) (v4 v5 : Int32) (ls : Array Slot), lv_has ls 6 [(0, .ref (ad 44)), (1, .int a1), (2, .int a2), (3, .int a3), (4, .int v4), (5, .int v5)] → xwh (bO_watcherAt_6 a1 a2 a3 M) n (v4, v5) = some e6 → W p l e (rm0_ 1 21) s m args below meth c s.heap [] 0 0 (MQ below (QcRead out) args s 0 0 (fun _ => False)) (F0 m 6 ls []) := by
    intro n
    induction n with
    | zero =>
      intro v4 v5 ls hl hn
      exact xwh_0 hn
    | succ n ih6 =>
      intro v4 v5 ls hl hn6
      obtain ⟨o6, hf, hn6⟩ := xwh_s hn6
      have hf : gO_watcherAt_6 a1 a2 a3 M v4 v5 = some o6 := hf
      have K41 : ∀ (v4 v5 : Int32) (ls : Array Slot), lv_has ls 6 [(0, .ref (ad 44)), (1, .int a1), (2, .int a2), (3, .int a3), (4, .int v4), (5, .int v5)] → fO_watcherAt_41 a1 a2 a3 v4 v5 M = some o6 → W p l e (rm0_ 1 21) s m args below meth c s.heap [] 0 0 (MQ below (QcRead out) args s 0 0 (fun _ => False)) (F0 m 41 ls []) := by
        intro v4 v5 ls  hl hf
        unfold fO_watcherAt_41 at hf
        obtain ⟨x1, hx1, hf⟩ := xlt_some hf
        refine lv_iinc (k := 5) (lv' := [(5, .int x1), (0, .ref (ad 44)), (1, .int a1), (2, .int a2), (3, .int a3), (4, .int v4)]) hx hb d_O_watcherAt_41 hl rfl hx1 (by decide) rfl (fun ls hl => ?_)
        refine lv_goto (tgt := 6) hx hb d_O_watcherAt_44 rfl ?_
        exact ih6 v4 x1 _ (lv_sub hl [1, 2, 3, 4, 5, 0] rfl) (xw_again hf hn6)
      unfold gO_watcherAt_6 at hf
      refine lv_iload hx hb d_O_watcherAt_6 (lv_at hl 5 rfl) ?_
      refine lv_bipush (v := 10) hx hb d_O_watcherAt_8 rfl ?_
      refine lv_icmp_ge (tgt := 47) hx hb d_O_watcherAt_10 rfl (fun hc => ?_) (fun hc => ?_)
      · have hf := ite_t hc hf
        have he := xw_exit hf hn6
        subst he
        have hf := hk6
        exact K47  _  (lv_sub hl [] rfl) hf
      · have hf := ite_f hc hf
        refine lv_aload_n hx hb d_O_watcherAt_13 rfl (lv_at hl 0 rfl) ?_
        refine xr_getr hx hb hT hown hK hP sX_44 rfl inO 2 (by decide) wf_O_20 rfl d_O_watcherAt_14 ?_
        refine lv_iload_n hx hb d_O_watcherAt_17 rfl (lv_at hl 1 rfl) ?_
        obtain ⟨g2, hf⟩ := xgd_some hf
        refine xr_aald hx hb hK hP sX_47 g2 d_O_watcherAt_18 ?_
        refine lv_iload_n hx hb d_O_watcherAt_19 rfl (lv_at hl 2 rfl) ?_
        obtain ⟨g3, hf⟩ := xgd_some hf
        refine xr_iald hx hb hK hP (sX_r47 g2) g3 d_O_watcherAt_20 ?_
        refine lv_iload hx hb d_O_watcherAt_21 (lv_at hl 5 rfl) ?_
        obtain ⟨r4, hr4, hf⟩ := xbd_some hf
        refine xc_rn (rest := []) F hT hK hP (tE_has l G c3 ad M (M (47 + 1 + a1.toNatClampNeg) a2.toNatClampNeg) v5 r4 hr4) wm_O_70 ws_E_has wn_E wc_E_has ck_E_has ⟨rfl, rfl⟩ ⟨by decide, by decide⟩ ⟨Nat.le_refl _, Nat.le_refl _⟩ hl.1 rfl (Nat.le_of_ble_eq_true rfl) d_O_watcherAt_23 ?_
        refine lv_if_eq (tgt := 41) hx hb d_O_watcherAt_26 rfl (fun hc => ?_) (fun hc => ?_)
        · have hf := ite_t hc hf
          exact K41 v4 v5 _  hl hf
        · have hf := ite_f hc hf
          refine lv_iload hx hb d_O_watcherAt_29 (lv_at hl 4 rfl) ?_
          refine lv_iload_n hx hb d_O_watcherAt_31 rfl (lv_at hl 3 rfl) ?_
          refine lv_icmp_ne (tgt := 38) hx hb d_O_watcherAt_32 rfl (fun hc => ?_) (fun hc => ?_)
          · have hf := ite_f hc hf
            obtain ⟨x5, hx5, hf⟩ := xlt_some hf
            refine lv_iinc (k := 4) (lv' := [(4, .int x5), (0, .ref (ad 44)), (1, .int a1), (2, .int a2), (3, .int a3), (5, .int v5)]) hx hb d_O_watcherAt_38 hl rfl hx5 (by decide) rfl (fun ls hl => ?_)
            exact K41 x5 v5 _  (lv_sub hl [1, 2, 3, 4, 0, 5] rfl) hf
          · have hf := ite_t hc hf
            refine lv_iload hx hb d_O_watcherAt_35 (lv_at hl 5 rfl) ?_
            have he := xw_exit hf hn6
            subst he
            have hf := hk6
            exact xr_iret hx hb hr hlk (Option.some.inj hf) d_O_watcherAt_37
  exact LH6 n6 0 0 _ (lv_sub hl [2, 3, 4, 5, 1, 0] rfl) hq6
noncomputable def fE_watcher_23 (v1 v2 v3 s23_0 : Int32) (M : Mem) : Option (Int32) := xbd (fE_mustExist s23_0) (fun _ => xbd (fO_watcherAt v1 v2 v3 M) (fun r2 => some r2))
noncomputable def fE_watcher_22 (v1 v2 v3 : Int32) (M : Mem) : Option (Int32) := fE_watcher_23 v1 v2 v3 0 M
noncomputable def fE_watcher (a1 a2 a3 : Int32) (M : Mem) : Option (Int32) := xbd (fE_isSession a1) (fun r3 => if r3 = 0 then (fE_watcher_22 a1 a2 a3 M) else (xbd (fE_isRoom a2) (fun r4 => if r4 = 0 then (fE_watcher_22 a1 a2 a3 M) else (if a3 < 0 then (fE_watcher_22 a1 a2 a3 M) else (fE_watcher_23 a1 a2 a3 1 M)))))
set_option maxHeartbeats 4000000 in
set_option maxRecDepth 100000 in
theorem tE_watcher (l : Launch) (G : va_G) (c3 : ClassId × ClassId × ClassId) (ad : Nat → Nat) (M : Mem) (a1 a2 a3 : Int32) (out : Int32) (hf : fE_watcher a1 a2 a3 M = some out) : RMet l yE_watcher cE_watcher 4 (some .int) (rm0_ 2 46) G kl SX c3 ad M [.ref (ad 0), .int a1, .int a2, .int a3] out := by
  refine RMet.of (by decide +kernel) (Nat.le_of_ble_eq_true rfl) (fun p e s m args below meth c ls F hT hK hP hr hlk hl => ?_)
  have hx := F.1
  have hb := F.2.1
  have F : CallFix p m c cE_watcher 4 s args gw RE := F
  have hown := F.2.2.2.1
  have hl : lv_has ls 4 [(0, .ref (ad 0)), (1, .int a1), (2, .int a2), (3, .int a3)] := hl
  have K23 : ∀ (v1 v2 v3 s23_0 : Int32) (ls : Array Slot), lv_has ls 4 [(0, .ref (ad 0)), (1, .int v1), (2, .int v2), (3, .int v3)] → fE_watcher_23 v1 v2 v3 s23_0 M = some out → W p l e (rm0_ 2 46) s m args below meth c s.heap [] 0 0 (MQ below (QcRead out) args s 0 0 (fun _ => False)) (F0 m 23 ls [.int s23_0]) := by
    intro v1 v2 v3 s23_0 ls  hl hf
    unfold fE_watcher_23 at hf
    obtain ⟨r1, hr1, hf⟩ := xbd_some hf
    refine xc_vs (rest := []) F hT hK hP (tE_mustExist l G c3 ad M s23_0 hr1) wl_E_34 ws_E_mustExist wn_E wc_E_mustExist ck_E_mustExist ⟨rfl, rfl⟩ ⟨by decide, by decide⟩ ⟨Nat.le_refl _, Nat.le_refl _⟩ hl.1 rfl (Nat.le_of_ble_eq_true rfl) d_E_watcher_23 ?_
    refine lv_aload_n hx hb d_E_watcher_26 rfl (lv_at hl 0 rfl) ?_
    refine xr_getr hx hb hT hown hK hP sX_0 rfl inE 2 (by decide) wf_E_26 rfl d_E_watcher_27 ?_
    refine lv_iload_n hx hb d_E_watcher_30 rfl (lv_at hl 1 rfl) ?_
    refine lv_iload_n hx hb d_E_watcher_31 rfl (lv_at hl 2 rfl) ?_
    refine lv_iload_n hx hb d_E_watcher_32 rfl (lv_at hl 3 rfl) ?_
    obtain ⟨r2, hr2, hf⟩ := xbd_some hf
    refine xc_rv (rest := []) F hT hK hP (tO_watcherAt l G c3 ad M v1 v2 v3 r2 hr2) sX_44 rfl wl_E_173 wi_O_watcherAt we_O_watcherAt wn_O wc_O_watcherAt ck_O_watcherAt ⟨rfl, rfl⟩ ⟨by decide, by decide⟩ ⟨Nat.le_refl _, Nat.le_refl _⟩ hl.1 rfl (Nat.le_of_ble_eq_true rfl) d_E_watcher_33 ?_
    exact xr_iret hx hb hr hlk (Option.some.inj hf) d_E_watcher_36
  have K22 : ∀ (v1 v2 v3 : Int32) (ls : Array Slot), lv_has ls 4 [(0, .ref (ad 0)), (1, .int v1), (2, .int v2), (3, .int v3)] → fE_watcher_22 v1 v2 v3 M = some out → W p l e (rm0_ 2 46) s m args below meth c s.heap [] 0 0 (MQ below (QcRead out) args s 0 0 (fun _ => False)) (F0 m 22 ls []) := by
    intro v1 v2 v3 ls  hl hf
    unfold fE_watcher_22 at hf
    refine lv_iconst (v := 0) hx hb d_E_watcher_22 rfl ?_
    exact K23 v1 v2 v3 0 _  hl hf
  unfold fE_watcher at hf
  refine lv_iload_n hx hb d_E_watcher_0 rfl (lv_at hl 1 rfl) ?_
  obtain ⟨r3, hr3, hf⟩ := xbd_some hf
  refine xc_rs (rest := []) F hT hK hP (tE_isSession l G c3 ad M a1 r3 hr3) wl_E_52 ws_E_isSession wn_E wc_E_isSession ck_E_isSession ⟨rfl, rfl⟩ ⟨by decide, by decide⟩ ⟨Nat.le_refl _, Nat.le_refl _⟩ hl.1 rfl (Nat.le_of_ble_eq_true rfl) d_E_watcher_1 ?_
  refine lv_if_eq (tgt := 22) hx hb d_E_watcher_4 rfl (fun hc => ?_) (fun hc => ?_)
  · have hf := ite_t hc hf
    exact K22 a1 a2 a3 _  hl hf
  · have hf := ite_f hc hf
    refine lv_iload_n hx hb d_E_watcher_7 rfl (lv_at hl 2 rfl) ?_
    obtain ⟨r4, hr4, hf⟩ := xbd_some hf
    refine xc_rs (rest := []) F hT hK hP (tE_isRoom l G c3 ad M a2 r4 hr4) wl_E_103 ws_E_isRoom wn_E wc_E_isRoom ck_E_isRoom ⟨rfl, rfl⟩ ⟨by decide, by decide⟩ ⟨Nat.le_refl _, Nat.le_refl _⟩ hl.1 rfl (Nat.le_of_ble_eq_true rfl) d_E_watcher_8 ?_
    refine lv_if_eq (tgt := 22) hx hb d_E_watcher_11 rfl (fun hc => ?_) (fun hc => ?_)
    · have hf := ite_t hc hf
      exact K22 a1 a2 a3 _  hl hf
    · have hf := ite_f hc hf
      refine lv_iload_n hx hb d_E_watcher_14 rfl (lv_at hl 3 rfl) ?_
      refine lv_if_lt (tgt := 22) hx hb d_E_watcher_15 rfl (fun hc => ?_) (fun hc => ?_)
      · have hf := ite_t hc hf
        exact K22 a1 a2 a3 _  hl hf
      · have hf := ite_f hc hf
        refine lv_iconst (v := 1) hx hb d_E_watcher_18 rfl ?_
        refine lv_goto (tgt := 23) hx hb d_E_watcher_19 rfl ?_
        exact K23 a1 a2 a3 1 _  hl hf
noncomputable def fT_enrolments_28 (v1 : Int32) (M : Mem) : Option (Int32) := some v1
noncomputable def gT_enrolments_4 (M : Mem) (v1 v2 : Int32) : Option ((Int32 × Int32) ⊕ (Int32 × Int32)) := if 40 ≤ v2 then (some (.inl (v1, v2))) else (xgd (vp_in v2 40) (xbd (fJI_bitCount (M 4 v2.toNatClampNeg)) (fun r2 => xlt ((v1 + r2)) (fun x3 => xlt (v2 + 1) (fun x4 => some (.inr (x3, x4)))))))
noncomputable def bT_enrolments_4 (M : Mem) : Int32 × Int32 → Option ((Int32 × Int32) ⊕ (Int32 × Int32)) := fun st => gT_enrolments_4 M st.1 st.2
noncomputable def fT_enrolments (M : Mem) : Option (Int32) := xbd (xlp (bT_enrolments_4  M) (0, 0)) (fun e4 => fT_enrolments_28 e4.1 M)
set_option maxHeartbeats 4000000 in
set_option maxRecDepth 100000 in
theorem tT_enrolments (l : Launch) (G : va_G) (c3 : ClassId × ClassId × ClassId) (ad : Nat → Nat) (M : Mem) (out : Int32) (hf : fT_enrolments M = some out) : RMet l yT_enrolments cT_enrolments 3 (some .int) (rm0_ 1 20) G kl SX c3 ad M [.ref (ad 1)] out := by
  refine RMet.of (by decide +kernel) (Nat.le_of_ble_eq_true rfl) (fun p e s m args below meth c ls F hT hK hP hr hlk hl => ?_)
  have hx := F.1
  have hb := F.2.1
  have F : CallFix p m c cT_enrolments 3 s args gw RT := F
  have hown := F.2.2.2.1
  have hl : lv_has ls 3 [(0, .ref (ad 1))] := hl
  have K28 : ∀ (v1 : Int32) (ls : Array Slot), lv_has ls 3 [(1, .int v1)] → fT_enrolments_28 v1 M = some out → W p l e (rm0_ 1 20) s m args below meth c s.heap [] 0 0 (MQ below (QcRead out) args s 0 0 (fun _ => False)) (F0 m 28 ls []) := by
    intro v1 ls  hl hf
    unfold fT_enrolments_28 at hf
    refine lv_iload_n hx hb d_T_enrolments_28 rfl (lv_at hl 0 rfl) ?_
    exact xr_iret hx hb hr hlk (Option.some.inj hf) d_T_enrolments_29
  unfold fT_enrolments at hf
  refine lv_iconst (v := 0) hx hb d_T_enrolments_0 rfl ?_
  refine lv_istore_n (lv' := [(1, .int 0), (0, .ref (ad 1))]) hx hb d_T_enrolments_1 rfl hl (by decide) rfl (fun ls hl => ?_)
  refine lv_iconst (v := 0) hx hb d_T_enrolments_2 rfl ?_
  refine lv_istore_n (lv' := [(2, .int 0), (1, .int 0), (0, .ref (ad 1))]) hx hb d_T_enrolments_3 rfl hl (by decide) rfl (fun ls hl => ?_)
  obtain ⟨e4, he4, hk4⟩ := xbd_some hf
  obtain ⟨n4, hq4⟩ := xlp_n he4
  have LH4 : ∀ (n : Nat) (v1 v2 : Int32) (ls : Array Slot), lv_has ls 3 [(0, .ref (ad 1)), (1, .int v1), (2, .int v2)] → xwh (bT_enrolments_4  M) n (v1, v2) = some e4 → W p l e (rm0_ 1 20) s m args below meth c s.heap [] 0 0 (MQ below (QcRead out) args s 0 0 (fun _ => False)) (F0 m 4 ls []) := by
    intro n
    induction n with
    | zero =>
      intro v1 v2 ls hl hn
      exact xwh_0 hn
    | succ n ih4 =>
      intro v1 v2 ls hl hn4
      obtain ⟨o4, hf, hn4⟩ := xwh_s hn4
      have hf : gT_enrolments_4 M v1 v2 = some o4 := hf
      unfold gT_enrolments_4 at hf
      refine lv_iload_n hx hb d_T_enrolments_4 rfl (lv_at hl 2 rfl) ?_
      refine lv_bipush (v := 40) hx hb d_T_enrolments_5 rfl ?_
      refine lv_icmp_ge (tgt := 28) hx hb d_T_enrolments_7 rfl (fun hc => ?_) (fun hc => ?_)
      · have hf := ite_t hc hf
        have he := xw_exit hf hn4
        subst he
        have hf := hk4
        exact K28 v1 _  (lv_sub hl [1] rfl) hf
      · have hf := ite_f hc hf
        refine lv_iload_n hx hb d_T_enrolments_10 rfl (lv_at hl 1 rfl) ?_
        refine lv_aload_n hx hb d_T_enrolments_11 rfl (lv_at hl 0 rfl) ?_
        refine xr_getr hx hb hT hown hK hP sX_1 rfl inT 2 (by decide) wf_T_18 rfl d_T_enrolments_12 ?_
        refine lv_iload_n hx hb d_T_enrolments_15 rfl (lv_at hl 2 rfl) ?_
        obtain ⟨g1, hf⟩ := xgd_some hf
        refine xr_iald hx hb hK hP sX_4 g1 d_T_enrolments_16 ?_
        obtain ⟨r2, hr2, hf⟩ := xbd_some hf
        refine xc_rs (rest := [.int v1]) F hT hK hP (tJI_bitCount l G c3 ad M (M 4 v2.toNatClampNeg) r2 hr2) wl_T_65 ws_JI_bitCount wn_JI wc_JI_bitCount ck_JI_bitCount ⟨rfl, rfl⟩ ⟨by decide, by decide⟩ ⟨Nat.le_refl _, Nat.le_refl _⟩ hl.1 rfl (Nat.le_of_ble_eq_true rfl) d_T_enrolments_17 ?_
        refine lv_iadd hx hb d_T_enrolments_20 ?_
        obtain ⟨x3, hx3, hf⟩ := xlt_some hf
        refine xr_name hx3 ?_
        refine lv_istore_n (lv' := [(1, .int x3), (0, .ref (ad 1)), (2, .int v2)]) hx hb d_T_enrolments_21 rfl hl (by decide) rfl (fun ls hl => ?_)
        obtain ⟨x4, hx4, hf⟩ := xlt_some hf
        refine lv_iinc (k := 2) (lv' := [(2, .int x4), (1, .int x3), (0, .ref (ad 1))]) hx hb d_T_enrolments_22 hl rfl hx4 (by decide) rfl (fun ls hl => ?_)
        refine lv_goto (tgt := 4) hx hb d_T_enrolments_25 rfl ?_
        exact ih4 x3 x4 _ (lv_sub hl [2, 1, 0] rfl) (xw_again hf hn4)
  exact LH4 n4 0 0 _ (lv_sub hl [2, 1, 0] rfl) hq4
noncomputable def fR_seatsTaken_38 (v1 : Int32) (M : Mem) : Option (Int32) := some v1
noncomputable def fR_seatsTaken_32 (v1 v2 : Int32) (M : Mem) : Option ((Int32 × Int32) ⊕ (Int32 × Int32)) := xlt (v2 + 1) (fun x1 => some (.inr (v1, x1)))
noncomputable def gR_seatsTaken_12 (v2 : Int32) (M : Mem) (v1 v3 : Int32) : Option ((Int32 × Int32) ⊕ (Int32 × Int32)) := if 4 ≤ v3 then (some (.inl (v1, v3))) else (xbd (fR_sittersIn v2 v3 M) (fun r2 => xlt ((v1 + r2)) (fun x3 => xlt (v3 + 1) (fun x4 => some (.inr (x3, x4))))))
noncomputable def bR_seatsTaken_12 (v2 : Int32) (M : Mem) : Int32 × Int32 → Option ((Int32 × Int32) ⊕ (Int32 × Int32)) := fun st => gR_seatsTaken_12 v2 M st.1 st.2
noncomputable def gR_seatsTaken_4 (M : Mem) (v1 v2 : Int32) : Option ((Int32 × Int32) ⊕ (Int32 × Int32)) := if 6 ≤ v2 then (some (.inl (v1, v2))) else (xbd (xlp (bR_seatsTaken_12 v2 M) (v1, 0)) (fun e12 => fR_seatsTaken_32 e12.1 v2 M))
noncomputable def bR_seatsTaken_4 (M : Mem) : Int32 × Int32 → Option ((Int32 × Int32) ⊕ (Int32 × Int32)) := fun st => gR_seatsTaken_4 M st.1 st.2
noncomputable def fR_seatsTaken (M : Mem) : Option (Int32) := xbd (xlp (bR_seatsTaken_4  M) (0, 0)) (fun e4 => fR_seatsTaken_38 e4.1 M)
set_option maxHeartbeats 4000000 in
set_option maxRecDepth 100000 in
theorem tR_seatsTaken (l : Launch) (G : va_G) (c3 : ClassId × ClassId × ClassId) (ad : Nat → Nat) (M : Mem) (out : Int32) (hf : fR_seatsTaken M = some out) : RMet l yR_seatsTaken cR_seatsTaken 4 (some .int) (rm0_ 1 24) G kl SX c3 ad M [.ref (ad 18)] out := by
  refine RMet.of (by decide +kernel) (Nat.le_of_ble_eq_true rfl) (fun p e s m args below meth c ls F hT hK hP hr hlk hl => ?_)
  have hx := F.1
  have hb := F.2.1
  have F : CallFix p m c cR_seatsTaken 4 s args gw RR := F
  have hown := F.2.2.2.1
  have hl : lv_has ls 4 [(0, .ref (ad 18))] := hl
  have K38 : ∀ (v1 : Int32) (ls : Array Slot), lv_has ls 4 [(1, .int v1)] → fR_seatsTaken_38 v1 M = some out → W p l e (rm0_ 1 24) s m args below meth c s.heap [] 0 0 (MQ below (QcRead out) args s 0 0 (fun _ => False)) (F0 m 38 ls []) := by
    intro v1 ls  hl hf
    unfold fR_seatsTaken_38 at hf
    refine lv_iload_n hx hb d_R_seatsTaken_38 rfl (lv_at hl 0 rfl) ?_
    exact xr_iret hx hb hr hlk (Option.some.inj hf) d_R_seatsTaken_39
  unfold fR_seatsTaken at hf
  refine lv_iconst (v := 0) hx hb d_R_seatsTaken_0 rfl ?_
  refine lv_istore_n (lv' := [(1, .int 0), (0, .ref (ad 18))]) hx hb d_R_seatsTaken_1 rfl hl (by decide) rfl (fun ls hl => ?_)
  refine lv_iconst (v := 0) hx hb d_R_seatsTaken_2 rfl ?_
  refine lv_istore_n (lv' := [(2, .int 0), (1, .int 0), (0, .ref (ad 18))]) hx hb d_R_seatsTaken_3 rfl hl (by decide) rfl (fun ls hl => ?_)
  obtain ⟨e4, he4, hk4⟩ := xbd_some hf
  obtain ⟨n4, hq4⟩ := xlp_n he4
  have LH4 : ∀ (n : Nat) (v1 v2 : Int32) (ls : Array Slot), lv_has ls 4 [(0, .ref (ad 18)), (1, .int v1), (2, .int v2)] → xwh (bR_seatsTaken_4  M) n (v1, v2) = some e4 → W p l e (rm0_ 1 24) s m args below meth c s.heap [] 0 0 (MQ below (QcRead out) args s 0 0 (fun _ => False)) (F0 m 4 ls []) := by
    intro n
    induction n with
    | zero =>
      intro v1 v2 ls hl hn
      exact xwh_0 hn
    | succ n ih4 =>
      intro v1 v2 ls hl hn4
      obtain ⟨o4, hf, hn4⟩ := xwh_s hn4
      have hf : gR_seatsTaken_4 M v1 v2 = some o4 := hf
      have K32 : ∀ (v1 v2 : Int32) (ls : Array Slot), lv_has ls 4 [(0, .ref (ad 18)), (1, .int v1), (2, .int v2)] → fR_seatsTaken_32 v1 v2 M = some o4 → W p l e (rm0_ 1 24) s m args below meth c s.heap [] 0 0 (MQ below (QcRead out) args s 0 0 (fun _ => False)) (F0 m 32 ls []) := by
        intro v1 v2 ls  hl hf
        unfold fR_seatsTaken_32 at hf
        obtain ⟨x1, hx1, hf⟩ := xlt_some hf
        refine lv_iinc (k := 2) (lv' := [(2, .int x1), (0, .ref (ad 18)), (1, .int v1)]) hx hb d_R_seatsTaken_32 hl rfl hx1 (by decide) rfl (fun ls hl => ?_)
        refine lv_goto (tgt := 4) hx hb d_R_seatsTaken_35 rfl ?_
        exact ih4 v1 x1 _ (lv_sub hl [1, 2, 0] rfl) (xw_again hf hn4)
      unfold gR_seatsTaken_4 at hf
      refine lv_iload_n hx hb d_R_seatsTaken_4 rfl (lv_at hl 2 rfl) ?_
      refine lv_bipush (v := 6) hx hb d_R_seatsTaken_5 rfl ?_
      refine lv_icmp_ge (tgt := 38) hx hb d_R_seatsTaken_7 rfl (fun hc => ?_) (fun hc => ?_)
      · have hf := ite_t hc hf
        have he := xw_exit hf hn4
        subst he
        have hf := hk4
        exact K38 v1 _  (lv_sub hl [1] rfl) hf
      · have hf := ite_f hc hf
        refine lv_iconst (v := 0) hx hb d_R_seatsTaken_10 rfl ?_
        refine lv_istore_n (lv' := [(3, .int 0), (0, .ref (ad 18)), (1, .int v1), (2, .int v2)]) hx hb d_R_seatsTaken_11 rfl hl (by decide) rfl (fun ls hl => ?_)
        obtain ⟨e12, he12, hk12⟩ := xbd_some hf
        obtain ⟨n12, hq12⟩ := xlp_n he12
        have LH12 : ∀ (n : Nat) (v1 v3 : Int32) (ls : Array Slot), lv_has ls 4 [(0, .ref (ad 18)), (1, .int v1), (2, .int v2), (3, .int v3)] → xwh (bR_seatsTaken_12 v2 M) n (v1, v3) = some e12 → W p l e (rm0_ 1 24) s m args below meth c s.heap [] 0 0 (MQ below (QcRead out) args s 0 0 (fun _ => False)) (F0 m 12 ls []) := by
          intro n
          induction n with
          | zero =>
            intro v1 v3 ls hl hn
            exact xwh_0 hn
          | succ n ih12 =>
            intro v1 v3 ls hl hn12
            obtain ⟨o12, hf, hn12⟩ := xwh_s hn12
            have hf : gR_seatsTaken_12 v2 M v1 v3 = some o12 := hf
            unfold gR_seatsTaken_12 at hf
            refine lv_iload_n hx hb d_R_seatsTaken_12 rfl (lv_at hl 3 rfl) ?_
            refine lv_iconst (v := 4) hx hb d_R_seatsTaken_13 rfl ?_
            refine lv_icmp_ge (tgt := 32) hx hb d_R_seatsTaken_14 rfl (fun hc => ?_) (fun hc => ?_)
            · have hf := ite_t hc hf
              have he := xw_exit hf hn12
              subst he
              have hf := hk12
              exact K32 v1 v2 _  (lv_sub hl [0, 1, 2] rfl) hf
            · have hf := ite_f hc hf
              refine lv_iload_n hx hb d_R_seatsTaken_17 rfl (lv_at hl 1 rfl) ?_
              refine lv_aload_n hx hb d_R_seatsTaken_18 rfl (lv_at hl 0 rfl) ?_
              refine lv_iload_n hx hb d_R_seatsTaken_19 rfl (lv_at hl 2 rfl) ?_
              refine lv_iload_n hx hb d_R_seatsTaken_20 rfl (lv_at hl 3 rfl) ?_
              obtain ⟨r2, hr2, hf⟩ := xbd_some hf
              refine xc_rv (rest := [.int v1]) F hT hK hP (tR_sittersIn l G c3 ad M v2 v3 r2 hr2) sX_18 rfl wl_R_68 wi_R_sittersIn we_R_sittersIn wn_R wc_R_sittersIn ck_R_sittersIn ⟨rfl, rfl⟩ ⟨by decide, by decide⟩ ⟨Nat.le_refl _, Nat.le_refl _⟩ hl.1 rfl (Nat.le_of_ble_eq_true rfl) d_R_seatsTaken_21 ?_
              refine lv_iadd hx hb d_R_seatsTaken_24 ?_
              obtain ⟨x3, hx3, hf⟩ := xlt_some hf
              refine xr_name hx3 ?_
              refine lv_istore_n (lv' := [(1, .int x3), (0, .ref (ad 18)), (2, .int v2), (3, .int v3)]) hx hb d_R_seatsTaken_25 rfl hl (by decide) rfl (fun ls hl => ?_)
              obtain ⟨x4, hx4, hf⟩ := xlt_some hf
              refine lv_iinc (k := 3) (lv' := [(3, .int x4), (1, .int x3), (0, .ref (ad 18)), (2, .int v2)]) hx hb d_R_seatsTaken_26 hl rfl hx4 (by decide) rfl (fun ls hl => ?_)
              refine lv_goto (tgt := 12) hx hb d_R_seatsTaken_29 rfl ?_
              exact ih12 x3 x4 _ (lv_sub hl [2, 1, 3, 0] rfl) (xw_again hf hn12)
        exact LH12 n12 v1 0 _ (lv_sub hl [1, 2, 3, 0] rfl) hq12
  exact LH4 n4 0 0 _ (lv_sub hl [2, 1, 0] rfl) hq4
noncomputable def fO_watches_43 (v1 : Int32) (M : Mem) : Option (Int32) := some v1
noncomputable def fO_watches_37 (v1 v2 : Int32) (M : Mem) : Option ((Int32 × Int32) ⊕ (Int32 × Int32)) := xlt (v2 + 1) (fun x1 => some (.inr (v1, x1)))
noncomputable def gO_watches_12 (v2 : Int32) (M : Mem) (v1 v3 : Int32) : Option ((Int32 × Int32) ⊕ (Int32 × Int32)) := if 4 ≤ v3 then (some (.inl (v1, v3))) else (xgd (vp_in v2 6) (xgd (vp_in v3 4) (xbd (fJI_bitCount (M (47 + 1 + v2.toNatClampNeg) v3.toNatClampNeg)) (fun r4 => xlt ((v1 + r4)) (fun x5 => xlt (v3 + 1) (fun x6 => some (.inr (x5, x6))))))))
noncomputable def bO_watches_12 (v2 : Int32) (M : Mem) : Int32 × Int32 → Option ((Int32 × Int32) ⊕ (Int32 × Int32)) := fun st => gO_watches_12 v2 M st.1 st.2
noncomputable def gO_watches_4 (M : Mem) (v1 v2 : Int32) : Option ((Int32 × Int32) ⊕ (Int32 × Int32)) := if 6 ≤ v2 then (some (.inl (v1, v2))) else (xbd (xlp (bO_watches_12 v2 M) (v1, 0)) (fun e12 => fO_watches_37 e12.1 v2 M))
noncomputable def bO_watches_4 (M : Mem) : Int32 × Int32 → Option ((Int32 × Int32) ⊕ (Int32 × Int32)) := fun st => gO_watches_4 M st.1 st.2
noncomputable def fO_watches (M : Mem) : Option (Int32) := xbd (xlp (bO_watches_4  M) (0, 0)) (fun e4 => fO_watches_43 e4.1 M)
set_option maxHeartbeats 4000000 in
set_option maxRecDepth 100000 in
theorem tO_watches (l : Launch) (G : va_G) (c3 : ClassId × ClassId × ClassId) (ad : Nat → Nat) (M : Mem) (out : Int32) (hf : fO_watches M = some out) : RMet l yO_watches cO_watches 4 (some .int) (rm0_ 1 20) G kl SX c3 ad M [.ref (ad 44)] out := by
  refine RMet.of (by decide +kernel) (Nat.le_of_ble_eq_true rfl) (fun p e s m args below meth c ls F hT hK hP hr hlk hl => ?_)
  have hx := F.1
  have hb := F.2.1
  have F : CallFix p m c cO_watches 4 s args gw RO := F
  have hown := F.2.2.2.1
  have hl : lv_has ls 4 [(0, .ref (ad 44))] := hl
  have K43 : ∀ (v1 : Int32) (ls : Array Slot), lv_has ls 4 [(1, .int v1)] → fO_watches_43 v1 M = some out → W p l e (rm0_ 1 20) s m args below meth c s.heap [] 0 0 (MQ below (QcRead out) args s 0 0 (fun _ => False)) (F0 m 43 ls []) := by
    intro v1 ls  hl hf
    unfold fO_watches_43 at hf
    refine lv_iload_n hx hb d_O_watches_43 rfl (lv_at hl 0 rfl) ?_
    exact xr_iret hx hb hr hlk (Option.some.inj hf) d_O_watches_44
  unfold fO_watches at hf
  refine lv_iconst (v := 0) hx hb d_O_watches_0 rfl ?_
  refine lv_istore_n (lv' := [(1, .int 0), (0, .ref (ad 44))]) hx hb d_O_watches_1 rfl hl (by decide) rfl (fun ls hl => ?_)
  refine lv_iconst (v := 0) hx hb d_O_watches_2 rfl ?_
  refine lv_istore_n (lv' := [(2, .int 0), (1, .int 0), (0, .ref (ad 44))]) hx hb d_O_watches_3 rfl hl (by decide) rfl (fun ls hl => ?_)
  obtain ⟨e4, he4, hk4⟩ := xbd_some hf
  obtain ⟨n4, hq4⟩ := xlp_n he4
  have LH4 : ∀ (n : Nat) (v1 v2 : Int32) (ls : Array Slot), lv_has ls 4 [(0, .ref (ad 44)), (1, .int v1), (2, .int v2)] → xwh (bO_watches_4  M) n (v1, v2) = some e4 → W p l e (rm0_ 1 20) s m args below meth c s.heap [] 0 0 (MQ below (QcRead out) args s 0 0 (fun _ => False)) (F0 m 4 ls []) := by
    intro n
    induction n with
    | zero =>
      intro v1 v2 ls hl hn
      exact xwh_0 hn
    | succ n ih4 =>
      intro v1 v2 ls hl hn4
      obtain ⟨o4, hf, hn4⟩ := xwh_s hn4
      have hf : gO_watches_4 M v1 v2 = some o4 := hf
      have K37 : ∀ (v1 v2 : Int32) (ls : Array Slot), lv_has ls 4 [(0, .ref (ad 44)), (1, .int v1), (2, .int v2)] → fO_watches_37 v1 v2 M = some o4 → W p l e (rm0_ 1 20) s m args below meth c s.heap [] 0 0 (MQ below (QcRead out) args s 0 0 (fun _ => False)) (F0 m 37 ls []) := by
        intro v1 v2 ls  hl hf
        unfold fO_watches_37 at hf
        obtain ⟨x1, hx1, hf⟩ := xlt_some hf
        refine lv_iinc (k := 2) (lv' := [(2, .int x1), (0, .ref (ad 44)), (1, .int v1)]) hx hb d_O_watches_37 hl rfl hx1 (by decide) rfl (fun ls hl => ?_)
        refine lv_goto (tgt := 4) hx hb d_O_watches_40 rfl ?_
        exact ih4 v1 x1 _ (lv_sub hl [1, 2, 0] rfl) (xw_again hf hn4)
      unfold gO_watches_4 at hf
      refine lv_iload_n hx hb d_O_watches_4 rfl (lv_at hl 2 rfl) ?_
      refine lv_bipush (v := 6) hx hb d_O_watches_5 rfl ?_
      refine lv_icmp_ge (tgt := 43) hx hb d_O_watches_7 rfl (fun hc => ?_) (fun hc => ?_)
      · have hf := ite_t hc hf
        have he := xw_exit hf hn4
        subst he
        have hf := hk4
        exact K43 v1 _  (lv_sub hl [1] rfl) hf
      · have hf := ite_f hc hf
        refine lv_iconst (v := 0) hx hb d_O_watches_10 rfl ?_
        refine lv_istore_n (lv' := [(3, .int 0), (0, .ref (ad 44)), (1, .int v1), (2, .int v2)]) hx hb d_O_watches_11 rfl hl (by decide) rfl (fun ls hl => ?_)
        obtain ⟨e12, he12, hk12⟩ := xbd_some hf
        obtain ⟨n12, hq12⟩ := xlp_n he12
        have LH12 : ∀ (n : Nat) (v1 v3 : Int32) (ls : Array Slot), lv_has ls 4 [(0, .ref (ad 44)), (1, .int v1), (2, .int v2), (3, .int v3)] → xwh (bO_watches_12 v2 M) n (v1, v3) = some e12 → W p l e (rm0_ 1 20) s m args below meth c s.heap [] 0 0 (MQ below (QcRead out) args s 0 0 (fun _ => False)) (F0 m 12 ls []) := by
          intro n
          induction n with
          | zero =>
            intro v1 v3 ls hl hn
            exact xwh_0 hn
          | succ n ih12 =>
            intro v1 v3 ls hl hn12
            obtain ⟨o12, hf, hn12⟩ := xwh_s hn12
            have hf : gO_watches_12 v2 M v1 v3 = some o12 := hf
            unfold gO_watches_12 at hf
            refine lv_iload_n hx hb d_O_watches_12 rfl (lv_at hl 3 rfl) ?_
            refine lv_iconst (v := 4) hx hb d_O_watches_13 rfl ?_
            refine lv_icmp_ge (tgt := 37) hx hb d_O_watches_14 rfl (fun hc => ?_) (fun hc => ?_)
            · have hf := ite_t hc hf
              have he := xw_exit hf hn12
              subst he
              have hf := hk12
              exact K37 v1 v2 _  (lv_sub hl [0, 1, 2] rfl) hf
            · have hf := ite_f hc hf
              refine lv_iload_n hx hb d_O_watches_17 rfl (lv_at hl 1 rfl) ?_
              refine lv_aload_n hx hb d_O_watches_18 rfl (lv_at hl 0 rfl) ?_
              refine xr_getr hx hb hT hown hK hP sX_44 rfl inO 2 (by decide) wf_O_20 rfl d_O_watches_19 ?_
              refine lv_iload_n hx hb d_O_watches_22 rfl (lv_at hl 2 rfl) ?_
              obtain ⟨g2, hf⟩ := xgd_some hf
              refine xr_aald hx hb hK hP sX_47 g2 d_O_watches_23 ?_
              refine lv_iload_n hx hb d_O_watches_24 rfl (lv_at hl 3 rfl) ?_
              obtain ⟨g3, hf⟩ := xgd_some hf
              refine xr_iald hx hb hK hP (sX_r47 g2) g3 d_O_watches_25 ?_
              obtain ⟨r4, hr4, hf⟩ := xbd_some hf
              refine xc_rs (rest := [.int v1]) F hT hK hP (tJI_bitCount l G c3 ad M (M (47 + 1 + v2.toNatClampNeg) v3.toNatClampNeg) r4 hr4) wl_O_74 ws_JI_bitCount wn_JI wc_JI_bitCount ck_JI_bitCount ⟨rfl, rfl⟩ ⟨by decide, by decide⟩ ⟨Nat.le_refl _, Nat.le_refl _⟩ hl.1 rfl (Nat.le_of_ble_eq_true rfl) d_O_watches_26 ?_
              refine lv_iadd hx hb d_O_watches_29 ?_
              obtain ⟨x5, hx5, hf⟩ := xlt_some hf
              refine xr_name hx5 ?_
              refine lv_istore_n (lv' := [(1, .int x5), (0, .ref (ad 44)), (2, .int v2), (3, .int v3)]) hx hb d_O_watches_30 rfl hl (by decide) rfl (fun ls hl => ?_)
              obtain ⟨x6, hx6, hf⟩ := xlt_some hf
              refine lv_iinc (k := 3) (lv' := [(3, .int x6), (1, .int x5), (0, .ref (ad 44)), (2, .int v2)]) hx hb d_O_watches_31 hl rfl hx6 (by decide) rfl (fun ls hl => ?_)
              refine lv_goto (tgt := 12) hx hb d_O_watches_34 rfl ?_
              exact ih12 x5 x6 _ (lv_sub hl [2, 1, 3, 0] rfl) (xw_again hf hn12)
        exact LH12 n12 v1 0 _ (lv_sub hl [1, 2, 3, 0] rfl) hq12
  exact LH4 n4 0 0 _ (lv_sub hl [2, 1, 0] rfl) hq4
noncomputable def fE_count (a1 : Int32) (M : Mem) : Option (Int32) := if a1 = 0 then (xbd (fT_heldPapers  M) (fun r1 => xbd (fJI_bitCount r1) (fun r2 => some r2))) else (if a1 = 1 then (xbd (fT_enrolments  M) (fun r3 => some r3)) else (if a1 = 2 then (some (M 1 8)) else (if a1 = 3 then (xbd (fR_seatsTaken  M) (fun r4 => some r4)) else (if a1 = 4 then (xbd (fO_watches  M) (fun r5 => some r5)) else (none)))))
set_option maxHeartbeats 4000000 in
set_option maxRecDepth 100000 in
theorem tE_count (l : Launch) (G : va_G) (c3 : ClassId × ClassId × ClassId) (ad : Nat → Nat) (M : Mem) (a1 : Int32) (out : Int32) (hf : fE_count a1 M = some out) : RMet l yE_count cE_count 2 (some .int) (rm0_ 2 47) G kl SX c3 ad M [.ref (ad 0), .int a1] out := by
  refine RMet.of (by decide +kernel) (Nat.le_of_ble_eq_true rfl) (fun p e s m args below meth c ls F hT hK hP hr hlk hl => ?_)
  have hx := F.1
  have hb := F.2.1
  have F : CallFix p m c cE_count 2 s args gw RE := F
  have hown := F.2.2.2.1
  have hl : lv_has ls 2 [(0, .ref (ad 0)), (1, .int a1)] := hl
  unfold fE_count at hf
  refine lv_iload_n hx hb d_E_count_0 rfl (lv_at hl 1 rfl) ?_
  by_cases hq0 : a1 = 0
  · have hf := ite_t hq0 hf
    rw [hq0]
    refine lv_tableIn (tgt := 36) hx hb d_E_count_1 (by decide) (by decide) rfl rfl ?_
    refine lv_aload_n hx hb d_E_count_36 rfl (lv_at hl 0 rfl) ?_
    refine xr_getr hx hb hT hown hK hP sX_0 rfl inE 0 (by decide) wf_E_12 rfl d_E_count_37 ?_
    obtain ⟨r1, hr1, hf⟩ := xbd_some hf
    refine xc_rv (rest := []) F hT hK hP (tT_heldPapers l G c3 ad M  r1 hr1) sX_1 rfl wl_E_176 wi_T_heldPapers we_T_heldPapers wn_T wc_T_heldPapers ck_T_heldPapers ⟨rfl, rfl⟩ ⟨by decide, by decide⟩ ⟨Nat.le_refl _, Nat.le_refl _⟩ hl.1 rfl (Nat.le_of_ble_eq_true rfl) d_E_count_40 ?_
    obtain ⟨r2, hr2, hf⟩ := xbd_some hf
    refine xc_rs (rest := []) F hT hK hP (tJI_bitCount l G c3 ad M r1 r2 hr2) wl_E_179 ws_JI_bitCount wn_JI wc_JI_bitCount ck_JI_bitCount ⟨rfl, rfl⟩ ⟨by decide, by decide⟩ ⟨Nat.le_refl _, Nat.le_refl _⟩ hl.1 rfl (Nat.le_of_ble_eq_true rfl) d_E_count_43 ?_
    exact xr_iret hx hb hr hlk (Option.some.inj hf) d_E_count_46
  have hf := ite_f hq0 hf
  by_cases hq1 : a1 = 1
  · have hf := ite_t hq1 hf
    rw [hq1]
    refine lv_tableIn (tgt := 47) hx hb d_E_count_1 (by decide) (by decide) rfl rfl ?_
    refine lv_aload_n hx hb d_E_count_47 rfl (lv_at hl 0 rfl) ?_
    refine xr_getr hx hb hT hown hK hP sX_0 rfl inE 0 (by decide) wf_E_12 rfl d_E_count_48 ?_
    obtain ⟨r3, hr3, hf⟩ := xbd_some hf
    refine xc_rv (rest := []) F hT hK hP (tT_enrolments l G c3 ad M  r3 hr3) sX_1 rfl wl_E_184 wi_T_enrolments we_T_enrolments wn_T wc_T_enrolments ck_T_enrolments ⟨rfl, rfl⟩ ⟨by decide, by decide⟩ ⟨Nat.le_refl _, Nat.le_refl _⟩ hl.1 rfl (Nat.le_of_ble_eq_true rfl) d_E_count_51 ?_
    exact xr_iret hx hb hr hlk (Option.some.inj hf) d_E_count_54
  have hf := ite_f hq1 hf
  by_cases hq2 : a1 = 2
  · have hf := ite_t hq2 hf
    rw [hq2]
    refine lv_tableIn (tgt := 55) hx hb d_E_count_1 (by decide) (by decide) rfl rfl ?_
    refine lv_aload_n hx hb d_E_count_55 rfl (lv_at hl 0 rfl) ?_
    refine xr_getr hx hb hT hown hK hP sX_0 rfl inE 0 (by decide) wf_E_12 rfl d_E_count_56 ?_
    refine xr_geti hx hb hT hown hK hP sX_1 rfl inT 8 (by decide) wf_E_187 rfl d_E_count_59 ?_
    exact xr_iret hx hb hr hlk (Option.some.inj hf) d_E_count_62
  have hf := ite_f hq2 hf
  by_cases hq3 : a1 = 3
  · have hf := ite_t hq3 hf
    rw [hq3]
    refine lv_tableIn (tgt := 63) hx hb d_E_count_1 (by decide) (by decide) rfl rfl ?_
    refine lv_aload_n hx hb d_E_count_63 rfl (lv_at hl 0 rfl) ?_
    refine xr_getr hx hb hT hown hK hP sX_0 rfl inE 1 (by decide) wf_E_19 rfl d_E_count_64 ?_
    obtain ⟨r4, hr4, hf⟩ := xbd_some hf
    refine xc_rv (rest := []) F hT hK hP (tR_seatsTaken l G c3 ad M  r4 hr4) sX_18 rfl wl_E_191 wi_R_seatsTaken we_R_seatsTaken wn_R wc_R_seatsTaken ck_R_seatsTaken ⟨rfl, rfl⟩ ⟨by decide, by decide⟩ ⟨Nat.le_refl _, Nat.le_refl _⟩ hl.1 rfl (Nat.le_of_ble_eq_true rfl) d_E_count_67 ?_
    exact xr_iret hx hb hr hlk (Option.some.inj hf) d_E_count_70
  have hf := ite_f hq3 hf
  by_cases hq4 : a1 = 4
  · have hf := ite_t hq4 hf
    rw [hq4]
    refine lv_tableIn (tgt := 71) hx hb d_E_count_1 (by decide) (by decide) rfl rfl ?_
    refine lv_aload_n hx hb d_E_count_71 rfl (lv_at hl 0 rfl) ?_
    refine xr_getr hx hb hT hown hK hP sX_0 rfl inE 2 (by decide) wf_E_26 rfl d_E_count_72 ?_
    obtain ⟨r5, hr5, hf⟩ := xbd_some hf
    refine xc_rv (rest := []) F hT hK hP (tO_watches l G c3 ad M  r5 hr5) sX_44 rfl wl_E_194 wi_O_watches we_O_watches wn_O wc_O_watches ck_O_watches ⟨rfl, rfl⟩ ⟨by decide, by decide⟩ ⟨Nat.le_refl _, Nat.le_refl _⟩ hl.1 rfl (Nat.le_of_ble_eq_true rfl) d_E_count_75 ?_
    exact xr_iret hx hb hr hlk (Option.some.inj hf) d_E_count_78
  have hf := ite_f hq4 hf
  refine lv_tableOut (tgt := 79) hx hb d_E_count_1 (tb_out 5 hq0 hq1 hq2 hq3 hq4) rfl ?_
  exact no_some hf
