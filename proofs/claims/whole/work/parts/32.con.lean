/-! ===== the constructors ===== -/
def SP : List Kd := [(3, 0, [.inl 1, .inl 2, .inl 3, .inl 4, .inl 5, .inr 5]), (0, 512, []), (0, 512, []), (0, 512, []), (0, 512, []), (0, 9, [])]
theorem sP_0 : SP[0]? = some (3, 0, [.inl 1, .inl 2, .inl 3, .inl 4, .inl 5, .inr 5]) := rfl
theorem sP_1 : SP[1]? = some (0, 512, []) := rfl
theorem sP_2 : SP[2]? = some (0, 512, []) := rfl
theorem sP_3 : SP[3]? = some (0, 512, []) := rfl
theorem sP_4 : SP[4]? = some (0, 512, []) := rfl
theorem sP_5 : SP[5]? = some (0, 9, []) := rfl
def ST : List Kd := [(3, 3, [.inl 1, .inl 2, .inl 3, .inl 4, .inl 5, .inl 9, .inl 10, .inr 7, .inr 8, .inl 11]), (0, 9, []), (0, 6, []), (0, 40, []), (1, 40, []), (2, 3, []), (0, 9, []), (0, 9, []), (0, 9, []), (0, 9, []), (0, 9, []), (3, 0, [.inl 12, .inl 13, .inl 14, .inl 15, .inl 16, .inr 5]), (0, 512, []), (0, 512, []), (0, 512, []), (0, 512, []), (0, 9, [])]
theorem sT_0 : ST[0]? = some (3, 3, [.inl 1, .inl 2, .inl 3, .inl 4, .inl 5, .inl 9, .inl 10, .inr 7, .inr 8, .inl 11]) := rfl
theorem sT_1 : ST[1]? = some (0, 9, []) := rfl
theorem sT_2 : ST[2]? = some (0, 6, []) := rfl
theorem sT_3 : ST[3]? = some (0, 40, []) := rfl
theorem sT_4 : ST[4]? = some (1, 40, []) := rfl
theorem sT_5 : ST[5]? = some (2, 3, []) := rfl
theorem sT_6 : ST[6]? = some (0, 9, []) := rfl
theorem sT_7 : ST[7]? = some (0, 9, []) := rfl
theorem sT_8 : ST[8]? = some (0, 9, []) := rfl
theorem sT_9 : ST[9]? = some (0, 9, []) := rfl
theorem sT_10 : ST[10]? = some (0, 9, []) := rfl
theorem sT_11 : ST[11]? = some (3, 0, [.inl 12, .inl 13, .inl 14, .inl 15, .inl 16, .inr 5]) := rfl
theorem sT_12 : ST[12]? = some (0, 512, []) := rfl
theorem sT_13 : ST[13]? = some (0, 512, []) := rfl
theorem sT_14 : ST[14]? = some (0, 512, []) := rfl
theorem sT_15 : ST[15]? = some (0, 512, []) := rfl
theorem sT_16 : ST[16]? = some (0, 9, []) := rfl
theorem sT_q5 : ∀ j, j < 3 → ST[5 + 1 + j]? = some (0, 9, [])
  | 0, _ => rfl
  | 1, _ => rfl
  | 2, _ => rfl
  | n + 3, h => absurd h (by omega)
theorem sT_r5 {i : Int32} (h : vp_in i 3) : ST[5 + 1 + i.toNatClampNeg]? = some (0, 9, []) := sT_q5 _ (Nat.not_le.mp fun q => h (Or.inr q))
def SR : List Kd := [(3, 1, [.inl 1, .inl 2, .inl 3, .inl 4, .inl 5, .inl 12, .inl 19]), (0, 4, []), (0, 4, []), (1, 4, []), (1, 144, []), (2, 6, []), (0, 144, []), (0, 144, []), (0, 144, []), (0, 144, []), (0, 144, []), (0, 144, []), (2, 6, []), (0, 144, []), (0, 144, []), (0, 144, []), (0, 144, []), (0, 144, []), (0, 144, []), (2, 6, []), (0, 40, []), (0, 40, []), (0, 40, []), (0, 40, []), (0, 40, []), (0, 40, [])]
theorem sR_0 : SR[0]? = some (3, 1, [.inl 1, .inl 2, .inl 3, .inl 4, .inl 5, .inl 12, .inl 19]) := rfl
theorem sR_1 : SR[1]? = some (0, 4, []) := rfl
theorem sR_2 : SR[2]? = some (0, 4, []) := rfl
theorem sR_3 : SR[3]? = some (1, 4, []) := rfl
theorem sR_4 : SR[4]? = some (1, 144, []) := rfl
theorem sR_5 : SR[5]? = some (2, 6, []) := rfl
theorem sR_6 : SR[6]? = some (0, 144, []) := rfl
theorem sR_7 : SR[7]? = some (0, 144, []) := rfl
theorem sR_8 : SR[8]? = some (0, 144, []) := rfl
theorem sR_9 : SR[9]? = some (0, 144, []) := rfl
theorem sR_10 : SR[10]? = some (0, 144, []) := rfl
theorem sR_11 : SR[11]? = some (0, 144, []) := rfl
theorem sR_12 : SR[12]? = some (2, 6, []) := rfl
theorem sR_13 : SR[13]? = some (0, 144, []) := rfl
theorem sR_14 : SR[14]? = some (0, 144, []) := rfl
theorem sR_15 : SR[15]? = some (0, 144, []) := rfl
theorem sR_16 : SR[16]? = some (0, 144, []) := rfl
theorem sR_17 : SR[17]? = some (0, 144, []) := rfl
theorem sR_18 : SR[18]? = some (0, 144, []) := rfl
theorem sR_19 : SR[19]? = some (2, 6, []) := rfl
theorem sR_20 : SR[20]? = some (0, 40, []) := rfl
theorem sR_21 : SR[21]? = some (0, 40, []) := rfl
theorem sR_22 : SR[22]? = some (0, 40, []) := rfl
theorem sR_23 : SR[23]? = some (0, 40, []) := rfl
theorem sR_24 : SR[24]? = some (0, 40, []) := rfl
theorem sR_25 : SR[25]? = some (0, 40, []) := rfl
theorem sR_q5 : ∀ j, j < 6 → SR[5 + 1 + j]? = some (0, 144, [])
  | 0, _ => rfl
  | 1, _ => rfl
  | 2, _ => rfl
  | 3, _ => rfl
  | 4, _ => rfl
  | 5, _ => rfl
  | n + 6, h => absurd h (by omega)
theorem sR_r5 {i : Int32} (h : vp_in i 6) : SR[5 + 1 + i.toNatClampNeg]? = some (0, 144, []) := sR_q5 _ (Nat.not_le.mp fun q => h (Or.inr q))
theorem sR_q12 : ∀ j, j < 6 → SR[12 + 1 + j]? = some (0, 144, [])
  | 0, _ => rfl
  | 1, _ => rfl
  | 2, _ => rfl
  | 3, _ => rfl
  | 4, _ => rfl
  | 5, _ => rfl
  | n + 6, h => absurd h (by omega)
theorem sR_r12 {i : Int32} (h : vp_in i 6) : SR[12 + 1 + i.toNatClampNeg]? = some (0, 144, []) := sR_q12 _ (Nat.not_le.mp fun q => h (Or.inr q))
theorem sR_q19 : ∀ j, j < 6 → SR[19 + 1 + j]? = some (0, 40, [])
  | 0, _ => rfl
  | 1, _ => rfl
  | 2, _ => rfl
  | 3, _ => rfl
  | 4, _ => rfl
  | 5, _ => rfl
  | n + 6, h => absurd h (by omega)
theorem sR_r19 {i : Int32} (h : vp_in i 6) : SR[19 + 1 + i.toNatClampNeg]? = some (0, 40, []) := sR_q19 _ (Nat.not_le.mp fun q => h (Or.inr q))
def SO : List Kd := [(3, 2, [.inl 1, .inl 2, .inl 3, .inl 10, .inl 11]), (0, 10, []), (0, 10, []), (2, 6, []), (0, 4, []), (0, 4, []), (0, 4, []), (0, 4, []), (0, 4, []), (0, 4, []), (0, 4, []), (0, 4, [])]
theorem sO_0 : SO[0]? = some (3, 2, [.inl 1, .inl 2, .inl 3, .inl 10, .inl 11]) := rfl
theorem sO_1 : SO[1]? = some (0, 10, []) := rfl
theorem sO_2 : SO[2]? = some (0, 10, []) := rfl
theorem sO_3 : SO[3]? = some (2, 6, []) := rfl
theorem sO_4 : SO[4]? = some (0, 4, []) := rfl
theorem sO_5 : SO[5]? = some (0, 4, []) := rfl
theorem sO_6 : SO[6]? = some (0, 4, []) := rfl
theorem sO_7 : SO[7]? = some (0, 4, []) := rfl
theorem sO_8 : SO[8]? = some (0, 4, []) := rfl
theorem sO_9 : SO[9]? = some (0, 4, []) := rfl
theorem sO_10 : SO[10]? = some (0, 4, []) := rfl
theorem sO_11 : SO[11]? = some (0, 4, []) := rfl
theorem sO_q3 : ∀ j, j < 6 → SO[3 + 1 + j]? = some (0, 4, [])
  | 0, _ => rfl
  | 1, _ => rfl
  | 2, _ => rfl
  | 3, _ => rfl
  | 4, _ => rfl
  | 5, _ => rfl
  | n + 6, h => absurd h (by omega)
theorem sO_r3 {i : Int32} (h : vp_in i 6) : SO[3 + 1 + i.toNatClampNeg]? = some (0, 4, []) := sO_q3 _ (Nat.not_le.mp fun q => h (Or.inr q))
noncomputable def fP_init_108 (M : Mem) : Option (Mem) := some M
noncomputable def fP_init_102 (v1 v2 : Int32) (M : Mem) : Option ((Int32 × Int32 × Mem) ⊕ (Int32 × Int32 × Mem)) := xlt (v2 + 1) (fun x1 => some (.inr (v1, x1, M)))
noncomputable def gP_init_71 (v1 v2 : Int32) (v3 : Int32) (M : Mem) : Option ((Int32 × Mem) ⊕ (Int32 × Mem)) := if ((1 : Int32) <<< (v2 &&& 31)) ≤ v3 then (some (.inl (v3, M))) else (xgd (vp_in v3 512) (xgd (vp_in (v3 ||| ((1 : Int32) <<< (v2 &&& 31))) 512) (xlt (up2 M 1 ((v3 ||| ((1 : Int32) <<< (v2 &&& 31))).toNatClampNeg) ((M 1 v3.toNatClampNeg) + v1)) (fun M4 => xlt (v3 + 1) (fun x5 => some (.inr (x5, M4)))))))
noncomputable def bP_init_71 (v1 v2 : Int32) : Int32 × Mem → Option ((Int32 × Mem) ⊕ (Int32 × Mem)) := fun st => gP_init_71 v1 v2 st.1 st.2
noncomputable def gP_init_58 (v1 v2 : Int32) (M : Mem) : Option ((Int32 × Int32 × Mem) ⊕ (Int32 × Int32 × Mem)) := if 9 ≤ v2 then (some (.inl (v1, v2, M))) else (xlt ((v1 / 6)) (fun x6 => xbd (xlp (bP_init_71 x6 v2) (0, M)) (fun e71 => fP_init_102 x6 v2 e71.2)))
noncomputable def bP_init_58 : Int32 × Int32 × Mem → Option ((Int32 × Int32 × Mem) ⊕ (Int32 × Int32 × Mem)) := fun st => gP_init_58 st.1 st.2.1 st.2.2
noncomputable def fP_init (M : Mem) : Option (Mem) := xbd (xlp (bP_init_58) (10077696, 0, M)) (fun e58 => fP_init_108  e58.2.2)
set_option maxHeartbeats 4000000 in
set_option maxRecDepth 100000 in
theorem zP_init (l : Launch) (G : va_G) (c3 : ClassId × ClassId × ClassId) (sz h0 : Nat) (out : Mem) (hf : fP_init ((fun _ _ => 0) : Mem) = some out) : CMet l yP_init cP_init 4 ({ frames := 1, cells := 5, slots := 2057, locals := 40 } : Room) G c3 SP sz h0 0 [.null, .null, .null, .null, .null, .int 0] out 5 2057 := by
  refine CMet.of (by decide +kernel) rfl (by decide) (fun p e s m args below meth c ls F hT hK hao hsz hP hD hS hA hr hlk hin hl => ?_)
  have hx := F.1
  have hb := F.2.1
  have hml := F.2.2.1
  have F : CallFix p m c cP_init 4 s args gw RP := F
  have hown := F.2.2.2.1
  have P2 : ∀ (ad : Nat → Nat) (H : Heap) (locs : List Loc) (ls : Array Slot), ad 0 = h0 → (∀ k, 0 < k → k < 6 → sz ≤ ad k) → va_P G kl (wd SP c3 ad ((fun _ _ => 0) : Mem)) H → va_D (aC h0 sz) (wd SP c3 ad ((fun _ _ => 0) : Mem)) → va_S (aC h0 sz) s.heap H locs → lv_has ls 4 [(0, .ref h0)] → W p l e ({ frames := 1, cells := 5, slots := 2057, locals := 40 } : Room) s m args below meth c H locs 5 2057 (MQ below (QC G c3 SP h0 sz out) args s 5 2057 (aC h0 sz)) (F0 m 53 ls []) := by
    clear hP hD hS hl
    intro ad H locs ls had hge hP hD hS hl
    have hd := adI_of hD
    have hAd := adA_of hD
    subst had
    generalize hM0 : ((fun _ _ => 0) : Mem) = M at hP hf
    clear hM0 hD
    have K108 : ∀ (M : Mem) (H : Heap) (locs : List Loc) (ls : Array Slot), lv_has ls 4 [] → va_P G kl (wd SP c3 ad M) H → va_S (aC (ad 0) sz) s.heap H locs → fP_init_108  M = some out → W p l e ({ frames := 1, cells := 5, slots := 2057, locals := 40 } : Room) s m args below meth c H locs 5 2057 (MQ below (QC G c3 SP (ad 0) sz out) args s 5 2057 (aC (ad 0) sz)) (F0 m 108 ls []) := by
      intro  M H locs ls  hl hP hS hf
      unfold fP_init_108 at hf
      exact xw_cret hx hb hr hlk hS rfl hge hd hAd hP (Option.some.inj hf) d_P_init_108
    unfold fP_init at hf
    refine lv_ldc (v := 10077696) hx hb hown (hT.1 _ wk_P_31 _) d_P_init_53 ?_
    refine lv_istore_n (lv' := [(1, .int 10077696), (0, .ref (ad 0))]) hx hb d_P_init_55 rfl hl (by decide) rfl (fun ls hl => ?_)
    refine lv_iconst (v := 0) hx hb d_P_init_56 rfl ?_
    refine lv_istore_n (lv' := [(2, .int 0), (1, .int 10077696), (0, .ref (ad 0))]) hx hb d_P_init_57 rfl hl (by decide) rfl (fun ls hl => ?_)
    obtain ⟨e58, he58, hk58⟩ := xbd_some hf
    obtain ⟨n58, hq58⟩ := xlp_n he58
    have LH58 : ∀ (n : Nat) (v1 v2 : Int32) (M : Mem) (H : Heap) (locs : List Loc) (ls : Array Slot), lv_has ls 4 [(0, .ref (ad 0)), (1, .int v1), (2, .int v2)] → va_P G kl (wd SP c3 ad M) H → va_S (aC (ad 0) sz) s.heap H locs → xwh (bP_init_58) n (v1, v2, M) = some e58 → W p l e ({ frames := 1, cells := 5, slots := 2057, locals := 40 } : Room) s m args below meth c H locs 5 2057 (MQ below (QC G c3 SP (ad 0) sz out) args s 5 2057 (aC (ad 0) sz)) (F0 m 58 ls []) := by
      intro n
      induction n with
      | zero =>
        intro v1 v2 M H locs ls hl hP hS hn
        exact xwh_0 hn
      | succ n ih58 =>
        intro v1 v2 M H locs ls hl hP hS hn58
        obtain ⟨o58, hf, hn58⟩ := xwh_s hn58
        have hf : gP_init_58 v1 v2 M = some o58 := hf
        have K102 : ∀ (v1 v2 : Int32) (M : Mem) (H : Heap) (locs : List Loc) (ls : Array Slot), lv_has ls 4 [(0, .ref (ad 0)), (1, .int v1), (2, .int v2)] → va_P G kl (wd SP c3 ad M) H → va_S (aC (ad 0) sz) s.heap H locs → fP_init_102 v1 v2 M = some o58 → W p l e ({ frames := 1, cells := 5, slots := 2057, locals := 40 } : Room) s m args below meth c H locs 5 2057 (MQ below (QC G c3 SP (ad 0) sz out) args s 5 2057 (aC (ad 0) sz)) (F0 m 102 ls []) := by
          intro v1 v2 M H locs ls  hl hP hS hf
          unfold fP_init_102 at hf
          obtain ⟨x1, hx1, hf⟩ := xlt_some hf
          refine lv_iinc (k := 2) (lv' := [(2, .int x1), (0, .ref (ad 0)), (1, .int v1)]) hx hb d_P_init_102 hl rfl hx1 (by decide) rfl (fun ls hl => ?_)
          refine lv_goto (tgt := 58) hx hb d_P_init_105 rfl ?_
          exact ih58 v1 x1 M _ _ _ (lv_sub hl [1, 2, 0] rfl) hP hS (xw_again hf hn58)
        unfold gP_init_58 at hf
        refine lv_iload_n hx hb d_P_init_58 rfl (lv_at hl 2 rfl) ?_
        refine lv_bipush (v := 9) hx hb d_P_init_59 rfl ?_
        refine lv_icmp_ge (tgt := 108) hx hb d_P_init_61 rfl (fun hc => ?_) (fun hc => ?_)
        · have hf := ite_t hc hf
          have he := xw_exit hf hn58
          subst he
          have hf := hk58
          exact K108  M _ _ _  (lv_sub hl [] rfl) hP hS hf
        · have hf := ite_f hc hf
          refine lv_iload_n hx hb d_P_init_64 rfl (lv_at hl 1 rfl) ?_
          refine lv_bipush (v := 6) hx hb d_P_init_65 rfl ?_
          refine lv_idiv hx hb d_P_init_67 (by decide) ?_
          obtain ⟨x2, hx2, hf⟩ := xlt_some hf
          refine xr_name hx2 ?_
          refine lv_istore_n (lv' := [(1, .int x2), (0, .ref (ad 0)), (2, .int v2)]) hx hb d_P_init_68 rfl hl (by decide) rfl (fun ls hl => ?_)
          refine lv_iconst (v := 0) hx hb d_P_init_69 rfl ?_
          refine lv_istore_n (lv' := [(3, .int 0), (1, .int x2), (0, .ref (ad 0)), (2, .int v2)]) hx hb d_P_init_70 rfl hl (by decide) rfl (fun ls hl => ?_)
          obtain ⟨e71, he71, hk71⟩ := xbd_some hf
          obtain ⟨n71, hq71⟩ := xlp_n he71
          have LH71 : ∀ (n : Nat) (v3 : Int32) (M : Mem) (H : Heap) (locs : List Loc) (ls : Array Slot), lv_has ls 4 [(0, .ref (ad 0)), (1, .int x2), (2, .int v2), (3, .int v3)] → va_P G kl (wd SP c3 ad M) H → va_S (aC (ad 0) sz) s.heap H locs → xwh (bP_init_71 x2 v2) n (v3, M) = some e71 → W p l e ({ frames := 1, cells := 5, slots := 2057, locals := 40 } : Room) s m args below meth c H locs 5 2057 (MQ below (QC G c3 SP (ad 0) sz out) args s 5 2057 (aC (ad 0) sz)) (F0 m 71 ls []) := by
            intro n
            induction n with
            | zero =>
              intro v3 M H locs ls hl hP hS hn
              exact xwh_0 hn
            | succ n ih71 =>
              intro v3 M H locs ls hl hP hS hn71
              obtain ⟨o71, hf, hn71⟩ := xwh_s hn71
              have hf : gP_init_71 x2 v2 v3 M = some o71 := hf
              unfold gP_init_71 at hf
              refine lv_iload_n hx hb d_P_init_71 rfl (lv_at hl 3 rfl) ?_
              refine lv_iconst (v := 1) hx hb d_P_init_72 rfl ?_
              refine lv_iload_n hx hb d_P_init_73 rfl (lv_at hl 2 rfl) ?_
              refine lv_ishl hx hb d_P_init_74 ?_
              refine lv_icmp_ge (tgt := 102) hx hb d_P_init_75 rfl (fun hc => ?_) (fun hc => ?_)
              · have hf := ite_t hc hf
                have he := xw_exit hf hn71
                subst he
                have hf := hk71
                exact K102 x2 v2 M _ _ _  (lv_sub hl [0, 1, 2] rfl) hP hS hf
              · have hf := ite_f hc hf
                refine lv_aload_n hx hb d_P_init_78 rfl (lv_at hl 0 rfl) ?_
                refine xr_getr hx hb hT hown hK hP sP_0 rfl inP 0 (by decide) wf_P_11 rfl d_P_init_79 ?_
                refine lv_iload_n hx hb d_P_init_82 rfl (lv_at hl 3 rfl) ?_
                refine lv_iconst (v := 1) hx hb d_P_init_83 rfl ?_
                refine lv_iload_n hx hb d_P_init_84 rfl (lv_at hl 2 rfl) ?_
                refine lv_ishl hx hb d_P_init_85 ?_
                refine lv_ior hx hb d_P_init_86 ?_
                refine lv_aload_n hx hb d_P_init_87 rfl (lv_at hl 0 rfl) ?_
                refine xr_getr hx hb hT hown hK hP sP_0 rfl inP 0 (by decide) wf_P_11 rfl d_P_init_88 ?_
                refine lv_iload_n hx hb d_P_init_91 rfl (lv_at hl 3 rfl) ?_
                obtain ⟨g3, hf⟩ := xgd_some hf
                refine xr_iald hx hb hK hP sP_1 g3 d_P_init_92 ?_
                refine lv_iload_n hx hb d_P_init_93 rfl (lv_at hl 1 rfl) ?_
                refine lv_iadd hx hb d_P_init_94 ?_
                obtain ⟨g4, hf⟩ := xgd_some hf
                obtain ⟨M5, hM5, hf⟩ := xlt_some hf
                refine xg_iast hx hb hd hAd hK hP hS sP_1 g4 d_P_init_95 (fun H locs hP hS => ?_)
                rw [hM5] at hP
                obtain ⟨x6, hx6, hf⟩ := xlt_some hf
                refine lv_iinc (k := 3) (lv' := [(3, .int x6), (0, .ref (ad 0)), (1, .int x2), (2, .int v2)]) hx hb d_P_init_96 hl rfl hx6 (by decide) rfl (fun ls hl => ?_)
                refine lv_goto (tgt := 71) hx hb d_P_init_99 rfl ?_
                exact ih71 x6 M5 _ _ _ (lv_sub hl [1, 2, 3, 0] rfl) hP hS (xw_again hf hn71)
          exact LH71 n71 0 M _ _ _ (lv_sub hl [2, 1, 3, 0] rfl) hP hS hq71
    exact LH58 n58 10077696 0 M _ _ _ (lv_sub hl [2, 1, 0] rfl) hP hS hq58
  refine lv_aload_n hx hb d_P_init_0 rfl (lv_at hl 0 rfl) ?_
  refine W.objInit hx hb hown (hT.1 _ wl_P_3 _) (hT.1 _ wi_JO_init _) (hT.1 _ wc_JO_init _) rfl (hl.1.trans hml.symm) rfl d_P_init_1 (Nat.le_of_ble_eq_true rfl) (Nat.le_of_ble_eq_true rfl) ?_
  refine W.eq (g2 := F0 m 4 ls []) rfl ?_
  refine lv_aload_n hx hb d_P_init_4 rfl (lv_at hl 0 rfl) ?_
  refine lv_sipush (v := 512) hx hb d_P_init_5 rfl ?_
  refine xn_newa hx hb hT hK hP hD hS hA (N := 512) (by decide) (by decide) (by decide) (by decide) (by decide) d_P_init_8 (fun q8 H hP hD hS => ?_)
  have hP : va_P G kl (([(h0, .inr (0, [.null, .null, .null, .null, .null, .int 0])), (q8, .inl (c3.1, 512, .inl (fun _ => 0)))] : va_W)) H := hP
  have hD : va_D (aC h0 sz) (([(h0, .inr (0, [.null, .null, .null, .null, .null, .int 0])), (q8, .inl (c3.1, 512, .inl (fun _ => 0)))] : va_W)) := hD
  refine va_putF (D := G) (ci := 0) (v := .ref q8) (ty := (.array .int)) (C := RP) (T := TP) (N := 6) hx hb (hT.hts args) inP tyP tkP nmP hown hK hP hD hS 0 rfl rfl 0 (by decide) (hT.1 _ wf_P_11 _) (fun _ h9 => h9) rfl hin rfl (by decide +kernel) rfl rfl (Nat.le_of_ble_eq_true rfl) d_P_init_10 (fun H locs hP hD hS => ?_)
  have hP : va_P G kl (([(h0, .inr (0, [.ref q8, .null, .null, .null, .null, .int 0])), (q8, .inl (c3.1, 512, .inl (fun _ => 0)))] : va_W)) H := hP
  have hD : va_D (aC h0 sz) (([(h0, .inr (0, [.ref q8, .null, .null, .null, .null, .int 0])), (q8, .inl (c3.1, 512, .inl (fun _ => 0)))] : va_W)) := hD
  refine lv_aload_n hx hb d_P_init_13 rfl (lv_at hl 0 rfl) ?_
  refine lv_sipush (v := 512) hx hb d_P_init_14 rfl ?_
  refine xn_newa hx hb hT hK hP hD hS hA (N := 512) (by decide) (by decide) (by decide) (by decide) (by decide) d_P_init_17 (fun q17 H hP hD hS => ?_)
  have hP : va_P G kl (([(h0, .inr (0, [.ref q8, .null, .null, .null, .null, .int 0])), (q8, .inl (c3.1, 512, .inl (fun _ => 0))), (q17, .inl (c3.1, 512, .inl (fun _ => 0)))] : va_W)) H := hP
  have hD : va_D (aC h0 sz) (([(h0, .inr (0, [.ref q8, .null, .null, .null, .null, .int 0])), (q8, .inl (c3.1, 512, .inl (fun _ => 0))), (q17, .inl (c3.1, 512, .inl (fun _ => 0)))] : va_W)) := hD
  refine va_putF (D := G) (ci := 0) (v := .ref q17) (ty := (.array .int)) (C := RP) (T := TP) (N := 6) hx hb (hT.hts args) inP tyP tkP nmP hown hK hP hD hS 0 rfl rfl 1 (by decide) (hT.1 _ wf_P_15 _) (fun _ h9 => h9) rfl hin rfl (by decide +kernel) rfl rfl (Nat.le_of_ble_eq_true rfl) d_P_init_19 (fun H locs hP hD hS => ?_)
  have hP : va_P G kl (([(h0, .inr (0, [.ref q8, .ref q17, .null, .null, .null, .int 0])), (q8, .inl (c3.1, 512, .inl (fun _ => 0))), (q17, .inl (c3.1, 512, .inl (fun _ => 0)))] : va_W)) H := hP
  have hD : va_D (aC h0 sz) (([(h0, .inr (0, [.ref q8, .ref q17, .null, .null, .null, .int 0])), (q8, .inl (c3.1, 512, .inl (fun _ => 0))), (q17, .inl (c3.1, 512, .inl (fun _ => 0)))] : va_W)) := hD
  refine lv_aload_n hx hb d_P_init_22 rfl (lv_at hl 0 rfl) ?_
  refine lv_sipush (v := 512) hx hb d_P_init_23 rfl ?_
  refine xn_newa hx hb hT hK hP hD hS hA (N := 512) (by decide) (by decide) (by decide) (by decide) (by decide) d_P_init_26 (fun q26 H hP hD hS => ?_)
  have hP : va_P G kl (([(h0, .inr (0, [.ref q8, .ref q17, .null, .null, .null, .int 0])), (q8, .inl (c3.1, 512, .inl (fun _ => 0))), (q17, .inl (c3.1, 512, .inl (fun _ => 0))), (q26, .inl (c3.1, 512, .inl (fun _ => 0)))] : va_W)) H := hP
  have hD : va_D (aC h0 sz) (([(h0, .inr (0, [.ref q8, .ref q17, .null, .null, .null, .int 0])), (q8, .inl (c3.1, 512, .inl (fun _ => 0))), (q17, .inl (c3.1, 512, .inl (fun _ => 0))), (q26, .inl (c3.1, 512, .inl (fun _ => 0)))] : va_W)) := hD
  refine va_putF (D := G) (ci := 0) (v := .ref q26) (ty := (.array .int)) (C := RP) (T := TP) (N := 6) hx hb (hT.hts args) inP tyP tkP nmP hown hK hP hD hS 0 rfl rfl 2 (by decide) (hT.1 _ wf_P_18 _) (fun _ h9 => h9) rfl hin rfl (by decide +kernel) rfl rfl (Nat.le_of_ble_eq_true rfl) d_P_init_28 (fun H locs hP hD hS => ?_)
  have hP : va_P G kl (([(h0, .inr (0, [.ref q8, .ref q17, .ref q26, .null, .null, .int 0])), (q8, .inl (c3.1, 512, .inl (fun _ => 0))), (q17, .inl (c3.1, 512, .inl (fun _ => 0))), (q26, .inl (c3.1, 512, .inl (fun _ => 0)))] : va_W)) H := hP
  have hD : va_D (aC h0 sz) (([(h0, .inr (0, [.ref q8, .ref q17, .ref q26, .null, .null, .int 0])), (q8, .inl (c3.1, 512, .inl (fun _ => 0))), (q17, .inl (c3.1, 512, .inl (fun _ => 0))), (q26, .inl (c3.1, 512, .inl (fun _ => 0)))] : va_W)) := hD
  refine lv_aload_n hx hb d_P_init_31 rfl (lv_at hl 0 rfl) ?_
  refine lv_sipush (v := 512) hx hb d_P_init_32 rfl ?_
  refine xn_newa hx hb hT hK hP hD hS hA (N := 512) (by decide) (by decide) (by decide) (by decide) (by decide) d_P_init_35 (fun q35 H hP hD hS => ?_)
  have hP : va_P G kl (([(h0, .inr (0, [.ref q8, .ref q17, .ref q26, .null, .null, .int 0])), (q8, .inl (c3.1, 512, .inl (fun _ => 0))), (q17, .inl (c3.1, 512, .inl (fun _ => 0))), (q26, .inl (c3.1, 512, .inl (fun _ => 0))), (q35, .inl (c3.1, 512, .inl (fun _ => 0)))] : va_W)) H := hP
  have hD : va_D (aC h0 sz) (([(h0, .inr (0, [.ref q8, .ref q17, .ref q26, .null, .null, .int 0])), (q8, .inl (c3.1, 512, .inl (fun _ => 0))), (q17, .inl (c3.1, 512, .inl (fun _ => 0))), (q26, .inl (c3.1, 512, .inl (fun _ => 0))), (q35, .inl (c3.1, 512, .inl (fun _ => 0)))] : va_W)) := hD
  refine va_putF (D := G) (ci := 0) (v := .ref q35) (ty := (.array .int)) (C := RP) (T := TP) (N := 6) hx hb (hT.hts args) inP tyP tkP nmP hown hK hP hD hS 0 rfl rfl 3 (by decide) (hT.1 _ wf_P_21 _) (fun _ h9 => h9) rfl hin rfl (by decide +kernel) rfl rfl (Nat.le_of_ble_eq_true rfl) d_P_init_37 (fun H locs hP hD hS => ?_)
  have hP : va_P G kl (([(h0, .inr (0, [.ref q8, .ref q17, .ref q26, .ref q35, .null, .int 0])), (q8, .inl (c3.1, 512, .inl (fun _ => 0))), (q17, .inl (c3.1, 512, .inl (fun _ => 0))), (q26, .inl (c3.1, 512, .inl (fun _ => 0))), (q35, .inl (c3.1, 512, .inl (fun _ => 0)))] : va_W)) H := hP
  have hD : va_D (aC h0 sz) (([(h0, .inr (0, [.ref q8, .ref q17, .ref q26, .ref q35, .null, .int 0])), (q8, .inl (c3.1, 512, .inl (fun _ => 0))), (q17, .inl (c3.1, 512, .inl (fun _ => 0))), (q26, .inl (c3.1, 512, .inl (fun _ => 0))), (q35, .inl (c3.1, 512, .inl (fun _ => 0)))] : va_W)) := hD
  refine lv_aload_n hx hb d_P_init_40 rfl (lv_at hl 0 rfl) ?_
  refine lv_bipush (v := 9) hx hb d_P_init_41 rfl ?_
  refine xn_newa hx hb hT hK hP hD hS hA (N := 9) (by decide) (by decide) (by decide) (by decide) (by decide) d_P_init_43 (fun q43 H hP hD hS => ?_)
  have hP : va_P G kl (([(h0, .inr (0, [.ref q8, .ref q17, .ref q26, .ref q35, .null, .int 0])), (q8, .inl (c3.1, 512, .inl (fun _ => 0))), (q17, .inl (c3.1, 512, .inl (fun _ => 0))), (q26, .inl (c3.1, 512, .inl (fun _ => 0))), (q35, .inl (c3.1, 512, .inl (fun _ => 0))), (q43, .inl (c3.1, 9, .inl (fun _ => 0)))] : va_W)) H := hP
  have hD : va_D (aC h0 sz) (([(h0, .inr (0, [.ref q8, .ref q17, .ref q26, .ref q35, .null, .int 0])), (q8, .inl (c3.1, 512, .inl (fun _ => 0))), (q17, .inl (c3.1, 512, .inl (fun _ => 0))), (q26, .inl (c3.1, 512, .inl (fun _ => 0))), (q35, .inl (c3.1, 512, .inl (fun _ => 0))), (q43, .inl (c3.1, 9, .inl (fun _ => 0)))] : va_W)) := hD
  refine va_putF (D := G) (ci := 0) (v := .ref q43) (ty := (.array .int)) (C := RP) (T := TP) (N := 6) hx hb (hT.hts args) inP tyP tkP nmP hown hK hP hD hS 0 rfl rfl 4 (by decide) (hT.1 _ wf_P_24 _) (fun _ h9 => h9) rfl hin rfl (by decide +kernel) rfl rfl (Nat.le_of_ble_eq_true rfl) d_P_init_45 (fun H locs hP hD hS => ?_)
  have hP : va_P G kl (([(h0, .inr (0, [.ref q8, .ref q17, .ref q26, .ref q35, .ref q43, .int 0])), (q8, .inl (c3.1, 512, .inl (fun _ => 0))), (q17, .inl (c3.1, 512, .inl (fun _ => 0))), (q26, .inl (c3.1, 512, .inl (fun _ => 0))), (q35, .inl (c3.1, 512, .inl (fun _ => 0))), (q43, .inl (c3.1, 9, .inl (fun _ => 0)))] : va_W)) H := hP
  have hD : va_D (aC h0 sz) (([(h0, .inr (0, [.ref q8, .ref q17, .ref q26, .ref q35, .ref q43, .int 0])), (q8, .inl (c3.1, 512, .inl (fun _ => 0))), (q17, .inl (c3.1, 512, .inl (fun _ => 0))), (q26, .inl (c3.1, 512, .inl (fun _ => 0))), (q35, .inl (c3.1, 512, .inl (fun _ => 0))), (q43, .inl (c3.1, 9, .inl (fun _ => 0)))] : va_W)) := hD
  refine lv_aload_n hx hb d_P_init_48 rfl (lv_at hl 0 rfl) ?_
  refine lv_iconst (v := 0) hx hb d_P_init_49 rfl ?_
  refine va_put (D := G) (ci := 0) (v := .int 0) (ty := .int) (C := RP) (T := TP) (N := 6) hx hb (hT.hts args) inP tyP tkP nmP hown hK hP hD hS 0 rfl rfl 5 (by decide) (hT.1 _ wf_P_27 _) (fun _ h9 => h9) rfl (by decide +kernel) rfl rfl (Nat.le_of_ble_eq_true rfl) d_P_init_50 (fun H locs hP hD hS => ?_)
  have hP : va_P G kl (([(h0, .inr (0, [.ref q8, .ref q17, .ref q26, .ref q35, .ref q43, .int 0])), (q8, .inl (c3.1, 512, .inl (fun _ => 0))), (q17, .inl (c3.1, 512, .inl (fun _ => 0))), (q26, .inl (c3.1, 512, .inl (fun _ => 0))), (q35, .inl (c3.1, 512, .inl (fun _ => 0))), (q43, .inl (c3.1, 9, .inl (fun _ => 0)))] : va_W)) H := hP
  have hD : va_D (aC h0 sz) (([(h0, .inr (0, [.ref q8, .ref q17, .ref q26, .ref q35, .ref q43, .int 0])), (q8, .inl (c3.1, 512, .inl (fun _ => 0))), (q17, .inl (c3.1, 512, .inl (fun _ => 0))), (q26, .inl (c3.1, 512, .inl (fun _ => 0))), (q35, .inl (c3.1, 512, .inl (fun _ => 0))), (q43, .inl (c3.1, 9, .inl (fun _ => 0)))] : va_W)) := hD
  have hge : ∀ k, 0 < k → k < 6 → sz ≤ (fun k => ([h0, q8, q17, q26, q35, q43] : List Nat).getD k 0) k := by
    intro k h1 h2
    have hAk : aC h0 sz ((fun k => ([h0, q8, q17, q26, q35, q43] : List Nat).getD k 0) k) := ((show va_D (aC h0 sz) (wd SP c3 (fun k => ([h0, q8, q17, q26, q35, q43] : List Nat).getD k 0) ((fun _ _ => 0) : Mem)) from hD).2 k _ (wd_at (List.getElem?_eq_getElem (show k < SP.length from h2))))
    rcases hAk with h | h
    · have := adI_of (show va_D (aC h0 sz) (wd SP c3 (fun k => ([h0, q8, q17, q26, q35, q43] : List Nat).getD k 0) ((fun _ _ => 0) : Mem)) from hD) k 0 h2 (by decide) h
      omega
    · exact h
  exact P2 (fun k => ([h0, q8, q17, q26, q35, q43] : List Nat).getD k 0) H _ _ rfl hge hP hD hS hl
noncomputable def fT_init (M : Mem) : Option (Mem) := xlt (upA M 9 9 (-1)) (fun M1 => xlt (upA M1 10 9 (-1)) (fun M2 => some M2))
set_option maxHeartbeats 4000000 in
set_option maxRecDepth 100000 in
theorem zT_init (l : Launch) (G : va_G) (c3 : ClassId × ClassId × ClassId) (sz h0 : Nat) (mP : Mem) (hP0 : fP_init ((fun _ _ => 0) : Mem) = some mP) (out : Mem) (hf : fT_init ((fun k => if k < 11 then (fun _ => 0) else mP (k - 11)) : Mem) = some out) : CMet l yT_init cT_init 1 ({ frames := 2, cells := 16, slots := 2206, locals := 63 } : Room) G c3 ST sz h0 3 [.null, .null, .null, .null, .null, .null, .null, .int 0, .int 0, .null] out 16 2206 := by
  refine CMet.of (by decide +kernel) rfl (by decide) (fun p e s m args below meth c ls F hT hK hao hsz hP hD hS hA hr hlk hin hl => ?_)
  have hx := F.1
  have hb := F.2.1
  have hml := F.2.2.1
  have F : CallFix p m c cT_init 1 s args gw RT := F
  have hown := F.2.2.2.1
  have P2 : ∀ (ad : Nat → Nat) (H : Heap) (locs : List Loc) (ls : Array Slot), ad 0 = h0 → (∀ k, 0 < k → k < 17 → sz ≤ ad k) → va_P G kl (wd ST c3 ad ((fun k => if k < 11 then (fun _ => 0) else mP (k - 11)) : Mem)) H → va_D (aC h0 sz) (wd ST c3 ad ((fun k => if k < 11 then (fun _ => 0) else mP (k - 11)) : Mem)) → va_S (aC h0 sz) s.heap H locs → lv_has ls 1 [(0, .ref h0)] → W p l e ({ frames := 2, cells := 16, slots := 2206, locals := 63 } : Room) s m args below meth c H locs 16 2206 (MQ below (QC G c3 ST h0 sz out) args s 16 2206 (aC h0 sz)) (F0 m 84 ls []) := by
    clear hP hD hS hl
    intro ad H locs ls had hge hP hD hS hl
    have hd := adI_of hD
    have hAd := adA_of hD
    subst had
    generalize hM0 : ((fun k => if k < 11 then (fun _ => 0) else mP (k - 11)) : Mem) = M at hP hf
    clear hM0 hD
    unfold fT_init at hf
    refine lv_aload_n hx hb d_T_init_84 rfl (lv_at hl 0 rfl) ?_
    refine xr_getr hx hb hT hown hK hP sT_0 rfl inT 5 (by decide) wf_T_30 rfl d_T_init_85 ?_
    refine lv_iconst (v := (-1)) hx hb d_T_init_88 rfl ?_
    obtain ⟨M1, hM1, hf⟩ := xlt_some hf
    refine xc_ws (rest := []) F hT hK hP hS hAd (tJA_fill l G sT_9 c3 ad hd M (-1)) wl_T_51 ws_JA_fill wn_JA wc_JA_fill ck_JA_fill ⟨rfl, rfl⟩ ⟨by decide, by decide⟩ ⟨by decide, by decide⟩ hl.1 rfl (Nat.le_of_ble_eq_true rfl) d_T_init_89 (fun H locs hP hS _ => ?_)
    rw [hM1] at hP
    refine lv_aload_n hx hb d_T_init_92 rfl (lv_at hl 0 rfl) ?_
    refine xr_getr hx hb hT hown hK hP sT_0 rfl inT 6 (by decide) wf_T_33 rfl d_T_init_93 ?_
    refine lv_iconst (v := (-1)) hx hb d_T_init_96 rfl ?_
    obtain ⟨M2, hM2, hf⟩ := xlt_some hf
    refine xc_ws (rest := []) F hT hK hP hS hAd (tJA_fill l G sT_10 c3 ad hd M1 (-1)) wl_T_51 ws_JA_fill wn_JA wc_JA_fill ck_JA_fill ⟨rfl, rfl⟩ ⟨by decide, by decide⟩ ⟨by decide, by decide⟩ hl.1 rfl (Nat.le_of_ble_eq_true rfl) d_T_init_97 (fun H locs hP hS _ => ?_)
    rw [hM2] at hP
    exact xw_cret hx hb hr hlk hS rfl hge hd hAd hP (Option.some.inj hf) d_T_init_100
  refine lv_aload_n hx hb d_T_init_0 rfl (lv_at hl 0 rfl) ?_
  refine W.objInit hx hb hown (hT.1 _ wl_T_3 _) (hT.1 _ wi_JO_init _) (hT.1 _ wc_JO_init _) rfl (hl.1.trans hml.symm) rfl d_T_init_1 (Nat.le_of_ble_eq_true rfl) (Nat.le_of_ble_eq_true rfl) ?_
  refine W.eq (g2 := F0 m 4 ls []) rfl ?_
  refine lv_aload_n hx hb d_T_init_4 rfl (lv_at hl 0 rfl) ?_
  refine lv_bipush (v := 9) hx hb d_T_init_5 rfl ?_
  refine xn_newa hx hb hT hK hP hD hS hA (N := 9) (by decide) (by decide) (by decide) (by decide) (by decide) d_T_init_7 (fun q7 H hP hD hS => ?_)
  have hP : va_P G kl (([(h0, .inr (3, [.null, .null, .null, .null, .null, .null, .null, .int 0, .int 0, .null])), (q7, .inl (c3.1, 9, .inl (fun _ => 0)))] : va_W)) H := hP
  have hD : va_D (aC h0 sz) (([(h0, .inr (3, [.null, .null, .null, .null, .null, .null, .null, .int 0, .int 0, .null])), (q7, .inl (c3.1, 9, .inl (fun _ => 0)))] : va_W)) := hD
  refine va_putF (D := G) (ci := 3) (v := .ref q7) (ty := (.array .int)) (C := RT) (T := TT) (N := 10) hx hb (hT.hts args) inT tyT tkT nmT hown hK hP hD hS 0 rfl rfl 0 (by decide) (hT.1 _ wf_T_9 _) (fun _ h9 => h9) rfl hin rfl (by decide +kernel) rfl rfl (Nat.le_of_ble_eq_true rfl) d_T_init_9 (fun H locs hP hD hS => ?_)
  have hP : va_P G kl (([(h0, .inr (3, [.ref q7, .null, .null, .null, .null, .null, .null, .int 0, .int 0, .null])), (q7, .inl (c3.1, 9, .inl (fun _ => 0)))] : va_W)) H := hP
  have hD : va_D (aC h0 sz) (([(h0, .inr (3, [.ref q7, .null, .null, .null, .null, .null, .null, .int 0, .int 0, .null])), (q7, .inl (c3.1, 9, .inl (fun _ => 0)))] : va_W)) := hD
  refine lv_aload_n hx hb d_T_init_12 rfl (lv_at hl 0 rfl) ?_
  refine lv_bipush (v := 6) hx hb d_T_init_13 rfl ?_
  refine xn_newa hx hb hT hK hP hD hS hA (N := 6) (by decide) (by decide) (by decide) (by decide) (by decide) d_T_init_15 (fun q15 H hP hD hS => ?_)
  have hP : va_P G kl (([(h0, .inr (3, [.ref q7, .null, .null, .null, .null, .null, .null, .int 0, .int 0, .null])), (q7, .inl (c3.1, 9, .inl (fun _ => 0))), (q15, .inl (c3.1, 6, .inl (fun _ => 0)))] : va_W)) H := hP
  have hD : va_D (aC h0 sz) (([(h0, .inr (3, [.ref q7, .null, .null, .null, .null, .null, .null, .int 0, .int 0, .null])), (q7, .inl (c3.1, 9, .inl (fun _ => 0))), (q15, .inl (c3.1, 6, .inl (fun _ => 0)))] : va_W)) := hD
  refine va_putF (D := G) (ci := 3) (v := .ref q15) (ty := (.array .int)) (C := RT) (T := TT) (N := 10) hx hb (hT.hts args) inT tyT tkT nmT hown hK hP hD hS 0 rfl rfl 1 (by decide) (hT.1 _ wf_T_15 _) (fun _ h9 => h9) rfl hin rfl (by decide +kernel) rfl rfl (Nat.le_of_ble_eq_true rfl) d_T_init_17 (fun H locs hP hD hS => ?_)
  have hP : va_P G kl (([(h0, .inr (3, [.ref q7, .ref q15, .null, .null, .null, .null, .null, .int 0, .int 0, .null])), (q7, .inl (c3.1, 9, .inl (fun _ => 0))), (q15, .inl (c3.1, 6, .inl (fun _ => 0)))] : va_W)) H := hP
  have hD : va_D (aC h0 sz) (([(h0, .inr (3, [.ref q7, .ref q15, .null, .null, .null, .null, .null, .int 0, .int 0, .null])), (q7, .inl (c3.1, 9, .inl (fun _ => 0))), (q15, .inl (c3.1, 6, .inl (fun _ => 0)))] : va_W)) := hD
  refine lv_aload_n hx hb d_T_init_20 rfl (lv_at hl 0 rfl) ?_
  refine lv_bipush (v := 40) hx hb d_T_init_21 rfl ?_
  refine xn_newa hx hb hT hK hP hD hS hA (N := 40) (by decide) (by decide) (by decide) (by decide) (by decide) d_T_init_23 (fun q23 H hP hD hS => ?_)
  have hP : va_P G kl (([(h0, .inr (3, [.ref q7, .ref q15, .null, .null, .null, .null, .null, .int 0, .int 0, .null])), (q7, .inl (c3.1, 9, .inl (fun _ => 0))), (q15, .inl (c3.1, 6, .inl (fun _ => 0))), (q23, .inl (c3.1, 40, .inl (fun _ => 0)))] : va_W)) H := hP
  have hD : va_D (aC h0 sz) (([(h0, .inr (3, [.ref q7, .ref q15, .null, .null, .null, .null, .null, .int 0, .int 0, .null])), (q7, .inl (c3.1, 9, .inl (fun _ => 0))), (q15, .inl (c3.1, 6, .inl (fun _ => 0))), (q23, .inl (c3.1, 40, .inl (fun _ => 0)))] : va_W)) := hD
  refine va_putF (D := G) (ci := 3) (v := .ref q23) (ty := (.array .int)) (C := RT) (T := TT) (N := 10) hx hb (hT.hts args) inT tyT tkT nmT hown hK hP hD hS 0 rfl rfl 2 (by decide) (hT.1 _ wf_T_18 _) (fun _ h9 => h9) rfl hin rfl (by decide +kernel) rfl rfl (Nat.le_of_ble_eq_true rfl) d_T_init_25 (fun H locs hP hD hS => ?_)
  have hP : va_P G kl (([(h0, .inr (3, [.ref q7, .ref q15, .ref q23, .null, .null, .null, .null, .int 0, .int 0, .null])), (q7, .inl (c3.1, 9, .inl (fun _ => 0))), (q15, .inl (c3.1, 6, .inl (fun _ => 0))), (q23, .inl (c3.1, 40, .inl (fun _ => 0)))] : va_W)) H := hP
  have hD : va_D (aC h0 sz) (([(h0, .inr (3, [.ref q7, .ref q15, .ref q23, .null, .null, .null, .null, .int 0, .int 0, .null])), (q7, .inl (c3.1, 9, .inl (fun _ => 0))), (q15, .inl (c3.1, 6, .inl (fun _ => 0))), (q23, .inl (c3.1, 40, .inl (fun _ => 0)))] : va_W)) := hD
  refine lv_aload_n hx hb d_T_init_28 rfl (lv_at hl 0 rfl) ?_
  refine lv_bipush (v := 40) hx hb d_T_init_29 rfl ?_
  refine xn_newz hx hb hT hK hP hD hS hA (N := 40) (by decide) (by decide) (by decide) (by decide) (by decide) d_T_init_31 (fun q31 H hP hD hS => ?_)
  have hP : va_P G kl (([(h0, .inr (3, [.ref q7, .ref q15, .ref q23, .null, .null, .null, .null, .int 0, .int 0, .null])), (q7, .inl (c3.1, 9, .inl (fun _ => 0))), (q15, .inl (c3.1, 6, .inl (fun _ => 0))), (q23, .inl (c3.1, 40, .inl (fun _ => 0))), (q31, .inl (c3.2.1, 40, .inl (fun _ => 0)))] : va_W)) H := hP
  have hD : va_D (aC h0 sz) (([(h0, .inr (3, [.ref q7, .ref q15, .ref q23, .null, .null, .null, .null, .int 0, .int 0, .null])), (q7, .inl (c3.1, 9, .inl (fun _ => 0))), (q15, .inl (c3.1, 6, .inl (fun _ => 0))), (q23, .inl (c3.1, 40, .inl (fun _ => 0))), (q31, .inl (c3.2.1, 40, .inl (fun _ => 0)))] : va_W)) := hD
  refine va_putF (D := G) (ci := 3) (v := .ref q31) (ty := (.array .boolean)) (C := RT) (T := TT) (N := 10) hx hb (hT.hts args) inT tyT tkT nmT hown hK hP hD hS 0 rfl rfl 3 (by decide) (hT.1 _ wf_T_21 _) (fun _ h9 => h9) rfl hin rfl (by decide +kernel) rfl rfl (Nat.le_of_ble_eq_true rfl) d_T_init_33 (fun H locs hP hD hS => ?_)
  have hP : va_P G kl (([(h0, .inr (3, [.ref q7, .ref q15, .ref q23, .ref q31, .null, .null, .null, .int 0, .int 0, .null])), (q7, .inl (c3.1, 9, .inl (fun _ => 0))), (q15, .inl (c3.1, 6, .inl (fun _ => 0))), (q23, .inl (c3.1, 40, .inl (fun _ => 0))), (q31, .inl (c3.2.1, 40, .inl (fun _ => 0)))] : va_W)) H := hP
  have hD : va_D (aC h0 sz) (([(h0, .inr (3, [.ref q7, .ref q15, .ref q23, .ref q31, .null, .null, .null, .int 0, .int 0, .null])), (q7, .inl (c3.1, 9, .inl (fun _ => 0))), (q15, .inl (c3.1, 6, .inl (fun _ => 0))), (q23, .inl (c3.1, 40, .inl (fun _ => 0))), (q31, .inl (c3.2.1, 40, .inl (fun _ => 0)))] : va_W)) := hD
  refine lv_aload_n hx hb d_T_init_36 rfl (lv_at hl 0 rfl) ?_
  refine lv_iconst (v := 3) hx hb d_T_init_37 rfl ?_
  refine lv_bipush (v := 9) hx hb d_T_init_38 rfl ?_
  refine xn_mna hx hb hown (hT.1 _ wq_T_25 _) hao hP hD hS hA (N := 3) (K := 9) (by decide) (by decide) (by decide) (by decide) (by decide) (by decide) (by decide) (by decide) d_T_init_40 (fun q40 fO40 H hO40 hP hD hS => ?_)
  have hP : va_P G kl (([(h0, .inr (3, [.ref q7, .ref q15, .ref q23, .ref q31, .null, .null, .null, .int 0, .int 0, .null])), (q7, .inl (c3.1, 9, .inl (fun _ => 0))), (q15, .inl (c3.1, 6, .inl (fun _ => 0))), (q23, .inl (c3.1, 40, .inl (fun _ => 0))), (q31, .inl (c3.2.1, 40, .inl (fun _ => 0))), (q40, .inl (c3.2.2, 3, .inr (.inr (.inr (.inr fO40))))), (q40 + 1 + 0, .inl (c3.1, 9, .inl (fun _ => 0))), (q40 + 1 + 1, .inl (c3.1, 9, .inl (fun _ => 0))), (q40 + 1 + 2, .inl (c3.1, 9, .inl (fun _ => 0)))] : va_W)) H := hP
  have hD : va_D (aC h0 sz) (([(h0, .inr (3, [.ref q7, .ref q15, .ref q23, .ref q31, .null, .null, .null, .int 0, .int 0, .null])), (q7, .inl (c3.1, 9, .inl (fun _ => 0))), (q15, .inl (c3.1, 6, .inl (fun _ => 0))), (q23, .inl (c3.1, 40, .inl (fun _ => 0))), (q31, .inl (c3.2.1, 40, .inl (fun _ => 0))), (q40, .inl (c3.2.2, 3, .inr (.inr (.inr (.inr fO40))))), (q40 + 1 + 0, .inl (c3.1, 9, .inl (fun _ => 0))), (q40 + 1 + 1, .inl (c3.1, 9, .inl (fun _ => 0))), (q40 + 1 + 2, .inl (c3.1, 9, .inl (fun _ => 0)))] : va_W)) := hD
  refine va_putF (D := G) (ci := 3) (v := .ref q40) (ty := (.array (.array .int))) (C := RT) (T := TT) (N := 10) hx hb (hT.hts args) inT tyT tkT nmT hown hK hP hD hS 0 rfl rfl 4 (by decide) (hT.1 _ wf_T_27 _) (fun _ h9 => h9) rfl hin rfl (by decide +kernel) rfl rfl (Nat.le_of_ble_eq_true rfl) d_T_init_44 (fun H locs hP hD hS => ?_)
  have hP : va_P G kl (([(h0, .inr (3, [.ref q7, .ref q15, .ref q23, .ref q31, .ref q40, .null, .null, .int 0, .int 0, .null])), (q7, .inl (c3.1, 9, .inl (fun _ => 0))), (q15, .inl (c3.1, 6, .inl (fun _ => 0))), (q23, .inl (c3.1, 40, .inl (fun _ => 0))), (q31, .inl (c3.2.1, 40, .inl (fun _ => 0))), (q40, .inl (c3.2.2, 3, .inr (.inr (.inr (.inr fO40))))), (q40 + 1 + 0, .inl (c3.1, 9, .inl (fun _ => 0))), (q40 + 1 + 1, .inl (c3.1, 9, .inl (fun _ => 0))), (q40 + 1 + 2, .inl (c3.1, 9, .inl (fun _ => 0)))] : va_W)) H := hP
  have hD : va_D (aC h0 sz) (([(h0, .inr (3, [.ref q7, .ref q15, .ref q23, .ref q31, .ref q40, .null, .null, .int 0, .int 0, .null])), (q7, .inl (c3.1, 9, .inl (fun _ => 0))), (q15, .inl (c3.1, 6, .inl (fun _ => 0))), (q23, .inl (c3.1, 40, .inl (fun _ => 0))), (q31, .inl (c3.2.1, 40, .inl (fun _ => 0))), (q40, .inl (c3.2.2, 3, .inr (.inr (.inr (.inr fO40))))), (q40 + 1 + 0, .inl (c3.1, 9, .inl (fun _ => 0))), (q40 + 1 + 1, .inl (c3.1, 9, .inl (fun _ => 0))), (q40 + 1 + 2, .inl (c3.1, 9, .inl (fun _ => 0)))] : va_W)) := hD
  refine lv_aload_n hx hb d_T_init_47 rfl (lv_at hl 0 rfl) ?_
  refine lv_bipush (v := 9) hx hb d_T_init_48 rfl ?_
  refine xn_newa hx hb hT hK hP hD hS hA (N := 9) (by decide) (by decide) (by decide) (by decide) (by decide) d_T_init_50 (fun q50 H hP hD hS => ?_)
  have hP : va_P G kl (([(h0, .inr (3, [.ref q7, .ref q15, .ref q23, .ref q31, .ref q40, .null, .null, .int 0, .int 0, .null])), (q7, .inl (c3.1, 9, .inl (fun _ => 0))), (q15, .inl (c3.1, 6, .inl (fun _ => 0))), (q23, .inl (c3.1, 40, .inl (fun _ => 0))), (q31, .inl (c3.2.1, 40, .inl (fun _ => 0))), (q40, .inl (c3.2.2, 3, .inr (.inr (.inr (.inr fO40))))), (q40 + 1 + 0, .inl (c3.1, 9, .inl (fun _ => 0))), (q40 + 1 + 1, .inl (c3.1, 9, .inl (fun _ => 0))), (q40 + 1 + 2, .inl (c3.1, 9, .inl (fun _ => 0))), (q50, .inl (c3.1, 9, .inl (fun _ => 0)))] : va_W)) H := hP
  have hD : va_D (aC h0 sz) (([(h0, .inr (3, [.ref q7, .ref q15, .ref q23, .ref q31, .ref q40, .null, .null, .int 0, .int 0, .null])), (q7, .inl (c3.1, 9, .inl (fun _ => 0))), (q15, .inl (c3.1, 6, .inl (fun _ => 0))), (q23, .inl (c3.1, 40, .inl (fun _ => 0))), (q31, .inl (c3.2.1, 40, .inl (fun _ => 0))), (q40, .inl (c3.2.2, 3, .inr (.inr (.inr (.inr fO40))))), (q40 + 1 + 0, .inl (c3.1, 9, .inl (fun _ => 0))), (q40 + 1 + 1, .inl (c3.1, 9, .inl (fun _ => 0))), (q40 + 1 + 2, .inl (c3.1, 9, .inl (fun _ => 0))), (q50, .inl (c3.1, 9, .inl (fun _ => 0)))] : va_W)) := hD
  refine va_putF (D := G) (ci := 3) (v := .ref q50) (ty := (.array .int)) (C := RT) (T := TT) (N := 10) hx hb (hT.hts args) inT tyT tkT nmT hown hK hP hD hS 0 rfl rfl 5 (by decide) (hT.1 _ wf_T_30 _) (fun _ h9 => h9) rfl hin rfl (by decide +kernel) rfl rfl (Nat.le_of_ble_eq_true rfl) d_T_init_52 (fun H locs hP hD hS => ?_)
  have hP : va_P G kl (([(h0, .inr (3, [.ref q7, .ref q15, .ref q23, .ref q31, .ref q40, .ref q50, .null, .int 0, .int 0, .null])), (q7, .inl (c3.1, 9, .inl (fun _ => 0))), (q15, .inl (c3.1, 6, .inl (fun _ => 0))), (q23, .inl (c3.1, 40, .inl (fun _ => 0))), (q31, .inl (c3.2.1, 40, .inl (fun _ => 0))), (q40, .inl (c3.2.2, 3, .inr (.inr (.inr (.inr fO40))))), (q40 + 1 + 0, .inl (c3.1, 9, .inl (fun _ => 0))), (q40 + 1 + 1, .inl (c3.1, 9, .inl (fun _ => 0))), (q40 + 1 + 2, .inl (c3.1, 9, .inl (fun _ => 0))), (q50, .inl (c3.1, 9, .inl (fun _ => 0)))] : va_W)) H := hP
  have hD : va_D (aC h0 sz) (([(h0, .inr (3, [.ref q7, .ref q15, .ref q23, .ref q31, .ref q40, .ref q50, .null, .int 0, .int 0, .null])), (q7, .inl (c3.1, 9, .inl (fun _ => 0))), (q15, .inl (c3.1, 6, .inl (fun _ => 0))), (q23, .inl (c3.1, 40, .inl (fun _ => 0))), (q31, .inl (c3.2.1, 40, .inl (fun _ => 0))), (q40, .inl (c3.2.2, 3, .inr (.inr (.inr (.inr fO40))))), (q40 + 1 + 0, .inl (c3.1, 9, .inl (fun _ => 0))), (q40 + 1 + 1, .inl (c3.1, 9, .inl (fun _ => 0))), (q40 + 1 + 2, .inl (c3.1, 9, .inl (fun _ => 0))), (q50, .inl (c3.1, 9, .inl (fun _ => 0)))] : va_W)) := hD
  refine lv_aload_n hx hb d_T_init_55 rfl (lv_at hl 0 rfl) ?_
  refine lv_bipush (v := 9) hx hb d_T_init_56 rfl ?_
  refine xn_newa hx hb hT hK hP hD hS hA (N := 9) (by decide) (by decide) (by decide) (by decide) (by decide) d_T_init_58 (fun q58 H hP hD hS => ?_)
  have hP : va_P G kl (([(h0, .inr (3, [.ref q7, .ref q15, .ref q23, .ref q31, .ref q40, .ref q50, .null, .int 0, .int 0, .null])), (q7, .inl (c3.1, 9, .inl (fun _ => 0))), (q15, .inl (c3.1, 6, .inl (fun _ => 0))), (q23, .inl (c3.1, 40, .inl (fun _ => 0))), (q31, .inl (c3.2.1, 40, .inl (fun _ => 0))), (q40, .inl (c3.2.2, 3, .inr (.inr (.inr (.inr fO40))))), (q40 + 1 + 0, .inl (c3.1, 9, .inl (fun _ => 0))), (q40 + 1 + 1, .inl (c3.1, 9, .inl (fun _ => 0))), (q40 + 1 + 2, .inl (c3.1, 9, .inl (fun _ => 0))), (q50, .inl (c3.1, 9, .inl (fun _ => 0))), (q58, .inl (c3.1, 9, .inl (fun _ => 0)))] : va_W)) H := hP
  have hD : va_D (aC h0 sz) (([(h0, .inr (3, [.ref q7, .ref q15, .ref q23, .ref q31, .ref q40, .ref q50, .null, .int 0, .int 0, .null])), (q7, .inl (c3.1, 9, .inl (fun _ => 0))), (q15, .inl (c3.1, 6, .inl (fun _ => 0))), (q23, .inl (c3.1, 40, .inl (fun _ => 0))), (q31, .inl (c3.2.1, 40, .inl (fun _ => 0))), (q40, .inl (c3.2.2, 3, .inr (.inr (.inr (.inr fO40))))), (q40 + 1 + 0, .inl (c3.1, 9, .inl (fun _ => 0))), (q40 + 1 + 1, .inl (c3.1, 9, .inl (fun _ => 0))), (q40 + 1 + 2, .inl (c3.1, 9, .inl (fun _ => 0))), (q50, .inl (c3.1, 9, .inl (fun _ => 0))), (q58, .inl (c3.1, 9, .inl (fun _ => 0)))] : va_W)) := hD
  refine va_putF (D := G) (ci := 3) (v := .ref q58) (ty := (.array .int)) (C := RT) (T := TT) (N := 10) hx hb (hT.hts args) inT tyT tkT nmT hown hK hP hD hS 0 rfl rfl 6 (by decide) (hT.1 _ wf_T_33 _) (fun _ h9 => h9) rfl hin rfl (by decide +kernel) rfl rfl (Nat.le_of_ble_eq_true rfl) d_T_init_60 (fun H locs hP hD hS => ?_)
  have hP : va_P G kl (([(h0, .inr (3, [.ref q7, .ref q15, .ref q23, .ref q31, .ref q40, .ref q50, .ref q58, .int 0, .int 0, .null])), (q7, .inl (c3.1, 9, .inl (fun _ => 0))), (q15, .inl (c3.1, 6, .inl (fun _ => 0))), (q23, .inl (c3.1, 40, .inl (fun _ => 0))), (q31, .inl (c3.2.1, 40, .inl (fun _ => 0))), (q40, .inl (c3.2.2, 3, .inr (.inr (.inr (.inr fO40))))), (q40 + 1 + 0, .inl (c3.1, 9, .inl (fun _ => 0))), (q40 + 1 + 1, .inl (c3.1, 9, .inl (fun _ => 0))), (q40 + 1 + 2, .inl (c3.1, 9, .inl (fun _ => 0))), (q50, .inl (c3.1, 9, .inl (fun _ => 0))), (q58, .inl (c3.1, 9, .inl (fun _ => 0)))] : va_W)) H := hP
  have hD : va_D (aC h0 sz) (([(h0, .inr (3, [.ref q7, .ref q15, .ref q23, .ref q31, .ref q40, .ref q50, .ref q58, .int 0, .int 0, .null])), (q7, .inl (c3.1, 9, .inl (fun _ => 0))), (q15, .inl (c3.1, 6, .inl (fun _ => 0))), (q23, .inl (c3.1, 40, .inl (fun _ => 0))), (q31, .inl (c3.2.1, 40, .inl (fun _ => 0))), (q40, .inl (c3.2.2, 3, .inr (.inr (.inr (.inr fO40))))), (q40 + 1 + 0, .inl (c3.1, 9, .inl (fun _ => 0))), (q40 + 1 + 1, .inl (c3.1, 9, .inl (fun _ => 0))), (q40 + 1 + 2, .inl (c3.1, 9, .inl (fun _ => 0))), (q50, .inl (c3.1, 9, .inl (fun _ => 0))), (q58, .inl (c3.1, 9, .inl (fun _ => 0)))] : va_W)) := hD
  refine lv_aload_n hx hb d_T_init_63 rfl (lv_at hl 0 rfl) ?_
  refine lv_iconst (v := 0) hx hb d_T_init_64 rfl ?_
  refine va_put (D := G) (ci := 3) (v := .int 0) (ty := .boolean) (C := RT) (T := TT) (N := 10) hx hb (hT.hts args) inT tyT tkT nmT hown hK hP hD hS 0 rfl rfl 7 (by decide) (hT.1 _ wf_T_36 _) (fun _ h9 => h9) rfl (by decide +kernel) rfl rfl (Nat.le_of_ble_eq_true rfl) d_T_init_65 (fun H locs hP hD hS => ?_)
  have hP : va_P G kl (([(h0, .inr (3, [.ref q7, .ref q15, .ref q23, .ref q31, .ref q40, .ref q50, .ref q58, .int 0, .int 0, .null])), (q7, .inl (c3.1, 9, .inl (fun _ => 0))), (q15, .inl (c3.1, 6, .inl (fun _ => 0))), (q23, .inl (c3.1, 40, .inl (fun _ => 0))), (q31, .inl (c3.2.1, 40, .inl (fun _ => 0))), (q40, .inl (c3.2.2, 3, .inr (.inr (.inr (.inr fO40))))), (q40 + 1 + 0, .inl (c3.1, 9, .inl (fun _ => 0))), (q40 + 1 + 1, .inl (c3.1, 9, .inl (fun _ => 0))), (q40 + 1 + 2, .inl (c3.1, 9, .inl (fun _ => 0))), (q50, .inl (c3.1, 9, .inl (fun _ => 0))), (q58, .inl (c3.1, 9, .inl (fun _ => 0)))] : va_W)) H := hP
  have hD : va_D (aC h0 sz) (([(h0, .inr (3, [.ref q7, .ref q15, .ref q23, .ref q31, .ref q40, .ref q50, .ref q58, .int 0, .int 0, .null])), (q7, .inl (c3.1, 9, .inl (fun _ => 0))), (q15, .inl (c3.1, 6, .inl (fun _ => 0))), (q23, .inl (c3.1, 40, .inl (fun _ => 0))), (q31, .inl (c3.2.1, 40, .inl (fun _ => 0))), (q40, .inl (c3.2.2, 3, .inr (.inr (.inr (.inr fO40))))), (q40 + 1 + 0, .inl (c3.1, 9, .inl (fun _ => 0))), (q40 + 1 + 1, .inl (c3.1, 9, .inl (fun _ => 0))), (q40 + 1 + 2, .inl (c3.1, 9, .inl (fun _ => 0))), (q50, .inl (c3.1, 9, .inl (fun _ => 0))), (q58, .inl (c3.1, 9, .inl (fun _ => 0)))] : va_W)) := hD
  refine lv_aload_n hx hb d_T_init_68 rfl (lv_at hl 0 rfl) ?_
  refine lv_iconst (v := 0) hx hb d_T_init_69 rfl ?_
  refine va_put (D := G) (ci := 3) (v := .int 0) (ty := .int) (C := RT) (T := TT) (N := 10) hx hb (hT.hts args) inT tyT tkT nmT hown hK hP hD hS 0 rfl rfl 8 (by decide) (hT.1 _ wf_T_40 _) (fun _ h9 => h9) rfl (by decide +kernel) rfl rfl (Nat.le_of_ble_eq_true rfl) d_T_init_70 (fun H locs hP hD hS => ?_)
  have hP : va_P G kl (([(h0, .inr (3, [.ref q7, .ref q15, .ref q23, .ref q31, .ref q40, .ref q50, .ref q58, .int 0, .int 0, .null])), (q7, .inl (c3.1, 9, .inl (fun _ => 0))), (q15, .inl (c3.1, 6, .inl (fun _ => 0))), (q23, .inl (c3.1, 40, .inl (fun _ => 0))), (q31, .inl (c3.2.1, 40, .inl (fun _ => 0))), (q40, .inl (c3.2.2, 3, .inr (.inr (.inr (.inr fO40))))), (q40 + 1 + 0, .inl (c3.1, 9, .inl (fun _ => 0))), (q40 + 1 + 1, .inl (c3.1, 9, .inl (fun _ => 0))), (q40 + 1 + 2, .inl (c3.1, 9, .inl (fun _ => 0))), (q50, .inl (c3.1, 9, .inl (fun _ => 0))), (q58, .inl (c3.1, 9, .inl (fun _ => 0)))] : va_W)) H := hP
  have hD : va_D (aC h0 sz) (([(h0, .inr (3, [.ref q7, .ref q15, .ref q23, .ref q31, .ref q40, .ref q50, .ref q58, .int 0, .int 0, .null])), (q7, .inl (c3.1, 9, .inl (fun _ => 0))), (q15, .inl (c3.1, 6, .inl (fun _ => 0))), (q23, .inl (c3.1, 40, .inl (fun _ => 0))), (q31, .inl (c3.2.1, 40, .inl (fun _ => 0))), (q40, .inl (c3.2.2, 3, .inr (.inr (.inr (.inr fO40))))), (q40 + 1 + 0, .inl (c3.1, 9, .inl (fun _ => 0))), (q40 + 1 + 1, .inl (c3.1, 9, .inl (fun _ => 0))), (q40 + 1 + 2, .inl (c3.1, 9, .inl (fun _ => 0))), (q50, .inl (c3.1, 9, .inl (fun _ => 0))), (q58, .inl (c3.1, 9, .inl (fun _ => 0)))] : va_W)) := hD
  refine lv_aload_n hx hb d_T_init_73 rfl (lv_at hl 0 rfl) ?_
  refine va_new (ci := 0) (fs := [.null, .null, .null, .null, .null, .int 0]) (C := RP) (T := TP) (N := 6) hx hb (hT.hts args) inP tyP tkP hown (hT.1 _ wq_T_44 _) (hT.1 _ wb_P _) (hT.1 _ wn_P _) hK hP hD hS hA rfl (fun j hj => by
    match j, hj with
    | 0, _ => rfl
    | 1, _ => rfl
    | 2, _ => rfl
    | 3, _ => rfl
    | 4, _ => rfl
    | 5, _ => rfl
    | n + 6, h => exact absurd h (by omega)) (by decide) (by decide) d_T_init_74 (fun q74 H hP hD hS => ?_)
  have hP : va_P G kl ((([(h0, .inr (3, [.ref q7, .ref q15, .ref q23, .ref q31, .ref q40, .ref q50, .ref q58, .int 0, .int 0, .null])), (q7, .inl (c3.1, 9, .inl (fun _ => 0))), (q15, .inl (c3.1, 6, .inl (fun _ => 0))), (q23, .inl (c3.1, 40, .inl (fun _ => 0))), (q31, .inl (c3.2.1, 40, .inl (fun _ => 0))), (q40, .inl (c3.2.2, 3, .inr (.inr (.inr (.inr fO40))))), (q40 + 1 + 0, .inl (c3.1, 9, .inl (fun _ => 0))), (q40 + 1 + 1, .inl (c3.1, 9, .inl (fun _ => 0))), (q40 + 1 + 2, .inl (c3.1, 9, .inl (fun _ => 0))), (q50, .inl (c3.1, 9, .inl (fun _ => 0))), (q58, .inl (c3.1, 9, .inl (fun _ => 0)))] : va_W)) ++ [(q74, .inr (0, [.null, .null, .null, .null, .null, .int 0]))]) H := hP
  have hD : va_D (aC h0 sz) ((([(h0, .inr (3, [.ref q7, .ref q15, .ref q23, .ref q31, .ref q40, .ref q50, .ref q58, .int 0, .int 0, .null])), (q7, .inl (c3.1, 9, .inl (fun _ => 0))), (q15, .inl (c3.1, 6, .inl (fun _ => 0))), (q23, .inl (c3.1, 40, .inl (fun _ => 0))), (q31, .inl (c3.2.1, 40, .inl (fun _ => 0))), (q40, .inl (c3.2.2, 3, .inr (.inr (.inr (.inr fO40))))), (q40 + 1 + 0, .inl (c3.1, 9, .inl (fun _ => 0))), (q40 + 1 + 1, .inl (c3.1, 9, .inl (fun _ => 0))), (q40 + 1 + 2, .inl (c3.1, 9, .inl (fun _ => 0))), (q50, .inl (c3.1, 9, .inl (fun _ => 0))), (q58, .inl (c3.1, 9, .inl (fun _ => 0)))] : va_W)) ++ [(q74, .inr (0, [.null, .null, .null, .null, .null, .int 0]))]) := hD
  refine lv_dup hx hb d_T_init_77 rfl ?_
  have hPc : va_P G kl [(q74, .inr (0, [.null, .null, .null, .null, .null, .int 0]))] H := fun k x hk => hP ((([(h0, .inr (3, [.ref q7, .ref q15, .ref q23, .ref q31, .ref q40, .ref q50, .ref q58, .int 0, .int 0, .null])), (q7, .inl (c3.1, 9, .inl (fun _ => 0))), (q15, .inl (c3.1, 6, .inl (fun _ => 0))), (q23, .inl (c3.1, 40, .inl (fun _ => 0))), (q31, .inl (c3.2.1, 40, .inl (fun _ => 0))), (q40, .inl (c3.2.2, 3, .inr (.inr (.inr (.inr fO40))))), (q40 + 1 + 0, .inl (c3.1, 9, .inl (fun _ => 0))), (q40 + 1 + 1, .inl (c3.1, 9, .inl (fun _ => 0))), (q40 + 1 + 2, .inl (c3.1, 9, .inl (fun _ => 0))), (q50, .inl (c3.1, 9, .inl (fun _ => 0))), (q58, .inl (c3.1, 9, .inl (fun _ => 0)))] : va_W)).length + k) x (by rw [List.getElem?_append_right (Nat.le_add_right _ _), Nat.add_sub_cancel_left]; exact hk)
  have hqA : aC h0 sz q74 := hD.2 (([(h0, .inr (3, [.ref q7, .ref q15, .ref q23, .ref q31, .ref q40, .ref q50, .ref q58, .int 0, .int 0, .null])), (q7, .inl (c3.1, 9, .inl (fun _ => 0))), (q15, .inl (c3.1, 6, .inl (fun _ => 0))), (q23, .inl (c3.1, 40, .inl (fun _ => 0))), (q31, .inl (c3.2.1, 40, .inl (fun _ => 0))), (q40, .inl (c3.2.2, 3, .inr (.inr (.inr (.inr fO40))))), (q40 + 1 + 0, .inl (c3.1, 9, .inl (fun _ => 0))), (q40 + 1 + 1, .inl (c3.1, 9, .inl (fun _ => 0))), (q40 + 1 + 2, .inl (c3.1, 9, .inl (fun _ => 0))), (q50, .inl (c3.1, 9, .inl (fun _ => 0))), (q58, .inl (c3.1, 9, .inl (fun _ => 0)))] : va_W)).length (q74, .inr (0, [.null, .null, .null, .null, .null, .int 0])) (by rw [List.getElem?_append_right (Nat.le_refl _), Nat.sub_self]; rfl)
  have hle0 := hS.1
  refine xc_c (va_runI (n := 0) (As := []) (b := q74) (rest := [.ref q74, .ref h0]) F (zP_init l G c3 H.size q74 mP hP0) ⟨callB_of 0 (hT.hts args) (gw_one wc_P_init) rfl rfl rfl (hT.1 _ wn_P _) (hT.1 _ wl_T_46 _) ck_P_init ⟨by decide, by decide⟩, rfl, hT.1 _ wi_P_init _⟩ ⟨okC.blind, fun U hU hW => ⟨rfl, hT.warm hW, va_K.moved hW.alike hK, hao.moved hW.alike, by rw [hU], by rw [hU]; exact hPc⟩⟩ rfl rfl hl.1 rfl (lv_room (Nat.le_of_ble_eq_true rfl)) d_T_init_78 ⟨by decide, by decide⟩) hS (fun z h => by rcases h with rfl | h; exact hqA; exact hA z (Nat.le_trans hle0 h)) (fun adP H locs hadP hgeP hPn hI hS hkp hle => ?_)
  obtain ⟨hP, hD⟩ := cj_join (ws := ([(h0, .inr (3, [.ref q7, .ref q15, .ref q23, .ref q31, .ref q40, .ref q50, .ref q58, .int 0, .int 0, .null])), (q7, .inl (c3.1, 9, .inl (fun _ => 0))), (q15, .inl (c3.1, 6, .inl (fun _ => 0))), (q23, .inl (c3.1, 40, .inl (fun _ => 0))), (q31, .inl (c3.2.1, 40, .inl (fun _ => 0))), (q40, .inl (c3.2.2, 3, .inr (.inr (.inr (.inr fO40))))), (q40 + 1 + 0, .inl (c3.1, 9, .inl (fun _ => 0))), (q40 + 1 + 1, .inl (c3.1, 9, .inl (fun _ => 0))), (q40 + 1 + 2, .inl (c3.1, 9, .inl (fun _ => 0))), (q50, .inl (c3.1, 9, .inl (fun _ => 0))), (q58, .inl (c3.1, 9, .inl (fun _ => 0)))] : va_W)) hP hD hadP hgeP hPn hI hkp (fun z h => hA z (Nat.le_trans hle0 h))
  rw [← hadP]
  refine va_putF (D := G) (ci := 3) (v := .ref (adP 0)) (ty := (.object "ExamDesk$Planner")) (C := RT) (T := TT) (N := 10) hx hb (hT.hts args) inT tyT tkT nmT hown hK hP hD hS 0 rfl rfl 9 (by decide) (hT.1 _ wf_T_47 _) (fun _ h9 => h9) rfl hin rfl (by decide +kernel) rfl rfl (Nat.le_of_ble_eq_true rfl) d_T_init_81 (fun H locs hP hD hS => ?_)
  have hP : va_P G kl (([(h0, .inr (3, [.ref q7, .ref q15, .ref q23, .ref q31, .ref q40, .ref q50, .ref q58, .int 0, .int 0, .ref ((adP 0))])), (q7, .inl (c3.1, 9, .inl (fun _ => 0))), (q15, .inl (c3.1, 6, .inl (fun _ => 0))), (q23, .inl (c3.1, 40, .inl (fun _ => 0))), (q31, .inl (c3.2.1, 40, .inl (fun _ => 0))), (q40, .inl (c3.2.2, 3, .inr (.inr (.inr (.inr fO40))))), (q40 + 1 + 0, .inl (c3.1, 9, .inl (fun _ => 0))), (q40 + 1 + 1, .inl (c3.1, 9, .inl (fun _ => 0))), (q40 + 1 + 2, .inl (c3.1, 9, .inl (fun _ => 0))), (q50, .inl (c3.1, 9, .inl (fun _ => 0))), (q58, .inl (c3.1, 9, .inl (fun _ => 0)))] : va_W) ++ wd SP c3 adP mP) H := hP
  have hD : va_D (aC h0 sz) (([(h0, .inr (3, [.ref q7, .ref q15, .ref q23, .ref q31, .ref q40, .ref q50, .ref q58, .int 0, .int 0, .ref ((adP 0))])), (q7, .inl (c3.1, 9, .inl (fun _ => 0))), (q15, .inl (c3.1, 6, .inl (fun _ => 0))), (q23, .inl (c3.1, 40, .inl (fun _ => 0))), (q31, .inl (c3.2.1, 40, .inl (fun _ => 0))), (q40, .inl (c3.2.2, 3, .inr (.inr (.inr (.inr fO40))))), (q40 + 1 + 0, .inl (c3.1, 9, .inl (fun _ => 0))), (q40 + 1 + 1, .inl (c3.1, 9, .inl (fun _ => 0))), (q40 + 1 + 2, .inl (c3.1, 9, .inl (fun _ => 0))), (q50, .inl (c3.1, 9, .inl (fun _ => 0))), (q58, .inl (c3.1, 9, .inl (fun _ => 0)))] : va_W) ++ wd SP c3 adP mP) := hD
  have efO40 : fO40 = fun i => if i < 3 then some ((fun k => if k < 11 then ([h0, q7, q15, q23, q31, q40, q40 + 1 + 0, q40 + 1 + 1, q40 + 1 + 2, q50, q58] : List Nat).getD k 0 else adP (k - 11)) (5 + 1 + i)) else none := by
    funext i
    rw [hO40 i]
    by_cases hi : i < 3
    · rw [if_pos hi, if_pos hi]
      match i, hi with
      | 0, _ => rfl
      | 1, _ => rfl
      | 2, _ => rfl
      | n + 3, h => exact absurd h (by omega)
    · rw [if_neg hi, if_neg hi]
  rw [efO40] at hP hD
  have hge : ∀ k, 0 < k → k < 17 → sz ≤ (fun k => if k < 11 then ([h0, q7, q15, q23, q31, q40, q40 + 1 + 0, q40 + 1 + 1, q40 + 1 + 2, q50, q58] : List Nat).getD k 0 else adP (k - 11)) k := by
    intro k h1 h2
    have hAk : aC h0 sz ((fun k => if k < 11 then ([h0, q7, q15, q23, q31, q40, q40 + 1 + 0, q40 + 1 + 1, q40 + 1 + 2, q50, q58] : List Nat).getD k 0 else adP (k - 11)) k) := ((show va_D (aC h0 sz) (wd ST c3 (fun k => if k < 11 then ([h0, q7, q15, q23, q31, q40, q40 + 1 + 0, q40 + 1 + 1, q40 + 1 + 2, q50, q58] : List Nat).getD k 0 else adP (k - 11)) ((fun k => if k < 11 then (fun _ => 0) else mP (k - 11)) : Mem)) from hD).2 k _ (wd_at (List.getElem?_eq_getElem (show k < ST.length from h2))))
    rcases hAk with h | h
    · have := adI_of (show va_D (aC h0 sz) (wd ST c3 (fun k => if k < 11 then ([h0, q7, q15, q23, q31, q40, q40 + 1 + 0, q40 + 1 + 1, q40 + 1 + 2, q50, q58] : List Nat).getD k 0 else adP (k - 11)) ((fun k => if k < 11 then (fun _ => 0) else mP (k - 11)) : Mem)) from hD) k 0 h2 (by decide) h
      omega
    · exact h
  exact P2 (fun k => if k < 11 then ([h0, q7, q15, q23, q31, q40, q40 + 1 + 0, q40 + 1 + 1, q40 + 1 + 2, q50, q58] : List Nat).getD k 0 else adP (k - 11)) H _ _ rfl hge hP hD hS hl
noncomputable def fR_init_116 (M : Mem) : Option (Mem) := some M
noncomputable def gR_init_74 (v1 : Int32) (M : Mem) : Option ((Int32 × Mem) ⊕ (Int32 × Mem)) := if 6 ≤ v1 then (some (.inl (v1, M))) else (xgd (vp_in v1 6) (xlt (upA M (5 + 1 + v1.toNatClampNeg) 144 (-1)) (fun M2 => xgd (vp_in v1 6) (xlt (upA M2 (12 + 1 + v1.toNatClampNeg) 144 (-1)) (fun M4 => xgd (vp_in v1 6) (xlt (upA M4 (19 + 1 + v1.toNatClampNeg) 40 (-1)) (fun M6 => xlt (v1 + 1) (fun x7 => some (.inr (x7, M6))))))))))
noncomputable def bR_init_74 : Int32 × Mem → Option ((Int32 × Mem) ⊕ (Int32 × Mem)) := fun st => gR_init_74 st.1 st.2
noncomputable def fR_init (M : Mem) : Option (Mem) := xbd (xlp (bR_init_74) (0, M)) (fun e74 => fR_init_116  e74.2)
set_option maxHeartbeats 4000000 in
set_option maxRecDepth 100000 in
theorem zR_init (l : Launch) (G : va_G) (c3 : ClassId × ClassId × ClassId) (sz h0 : Nat) (out : Mem) (hf : fR_init ((fun _ _ => 0) : Mem) = some out) : CMet l yR_init cR_init 2 ({ frames := 1, cells := 25, slots := 2142, locals := 40 } : Room) G c3 SR sz h0 1 [.null, .null, .null, .null, .null, .null, .null] out 25 2142 := by
  refine CMet.of (by decide +kernel) rfl (by decide) (fun p e s m args below meth c ls F hT hK hao hsz hP hD hS hA hr hlk hin hl => ?_)
  have hx := F.1
  have hb := F.2.1
  have hml := F.2.2.1
  have F : CallFix p m c cR_init 2 s args gw RR := F
  have hown := F.2.2.2.1
  have P2 : ∀ (ad : Nat → Nat) (H : Heap) (locs : List Loc) (ls : Array Slot), ad 0 = h0 → (∀ k, 0 < k → k < 26 → sz ≤ ad k) → va_P G kl (wd SR c3 ad ((fun _ _ => 0) : Mem)) H → va_D (aC h0 sz) (wd SR c3 ad ((fun _ _ => 0) : Mem)) → va_S (aC h0 sz) s.heap H locs → lv_has ls 2 [(0, .ref h0)] → W p l e ({ frames := 1, cells := 25, slots := 2142, locals := 40 } : Room) s m args below meth c H locs 25 2142 (MQ below (QC G c3 SR h0 sz out) args s 25 2142 (aC h0 sz)) (F0 m 72 ls []) := by
    clear hP hD hS hl
    intro ad H locs ls had hge hP hD hS hl
    have hd := adI_of hD
    have hAd := adA_of hD
    subst had
    generalize hM0 : ((fun _ _ => 0) : Mem) = M at hP hf
    clear hM0 hD
    have K116 : ∀ (M : Mem) (H : Heap) (locs : List Loc) (ls : Array Slot), lv_has ls 2 [] → va_P G kl (wd SR c3 ad M) H → va_S (aC (ad 0) sz) s.heap H locs → fR_init_116  M = some out → W p l e ({ frames := 1, cells := 25, slots := 2142, locals := 40 } : Room) s m args below meth c H locs 25 2142 (MQ below (QC G c3 SR (ad 0) sz out) args s 25 2142 (aC (ad 0) sz)) (F0 m 116 ls []) := by
      intro  M H locs ls  hl hP hS hf
      unfold fR_init_116 at hf
      exact xw_cret hx hb hr hlk hS rfl hge hd hAd hP (Option.some.inj hf) d_R_init_116
    unfold fR_init at hf
    refine lv_iconst (v := 0) hx hb d_R_init_72 rfl ?_
    refine lv_istore_n (lv' := [(1, .int 0), (0, .ref (ad 0))]) hx hb d_R_init_73 rfl hl (by decide) rfl (fun ls hl => ?_)
    obtain ⟨e74, he74, hk74⟩ := xbd_some hf
    obtain ⟨n74, hq74⟩ := xlp_n he74
    have LH74 : ∀ (n : Nat) (v1 : Int32) (M : Mem) (H : Heap) (locs : List Loc) (ls : Array Slot), lv_has ls 2 [(0, .ref (ad 0)), (1, .int v1)] → va_P G kl (wd SR c3 ad M) H → va_S (aC (ad 0) sz) s.heap H locs → xwh (bR_init_74) n (v1, M) = some e74 → W p l e ({ frames := 1, cells := 25, slots := 2142, locals := 40 } : Room) s m args below meth c H locs 25 2142 (MQ below (QC G c3 SR (ad 0) sz out) args s 25 2142 (aC (ad 0) sz)) (F0 m 74 ls []) := by
      intro n
      induction n with
      | zero =>
        intro v1 M H locs ls hl hP hS hn
        exact xwh_0 hn
      | succ n ih74 =>
        intro v1 M H locs ls hl hP hS hn74
        obtain ⟨o74, hf, hn74⟩ := xwh_s hn74
        have hf : gR_init_74 v1 M = some o74 := hf
        unfold gR_init_74 at hf
        refine lv_iload_n hx hb d_R_init_74 rfl (lv_at hl 1 rfl) ?_
        refine lv_bipush (v := 6) hx hb d_R_init_75 rfl ?_
        refine lv_icmp_ge (tgt := 116) hx hb d_R_init_77 rfl (fun hc => ?_) (fun hc => ?_)
        · have hf := ite_t hc hf
          have he := xw_exit hf hn74
          subst he
          have hf := hk74
          exact K116  M _ _ _  (lv_sub hl [] rfl) hP hS hf
        · have hf := ite_f hc hf
          refine lv_aload_n hx hb d_R_init_80 rfl (lv_at hl 0 rfl) ?_
          refine xr_getr hx hb hT hown hK hP sR_0 rfl inR 4 (by decide) wf_R_27 rfl d_R_init_81 ?_
          refine lv_iload_n hx hb d_R_init_84 rfl (lv_at hl 1 rfl) ?_
          obtain ⟨g1, hf⟩ := xgd_some hf
          refine xr_aald hx hb hK hP sR_5 g1 d_R_init_85 ?_
          refine lv_iconst (v := (-1)) hx hb d_R_init_86 rfl ?_
          obtain ⟨M2, hM2, hf⟩ := xlt_some hf
          refine xc_ws (rest := []) F hT hK hP hS hAd (tJA_fill l G (sR_r5 g1) c3 ad hd M (-1)) wl_R_36 ws_JA_fill wn_JA wc_JA_fill ck_JA_fill ⟨rfl, rfl⟩ ⟨by decide, by decide⟩ ⟨by decide, by decide⟩ hl.1 rfl (Nat.le_of_ble_eq_true rfl) d_R_init_87 (fun H locs hP hS _ => ?_)
          rw [hM2] at hP
          refine lv_aload_n hx hb d_R_init_90 rfl (lv_at hl 0 rfl) ?_
          refine xr_getr hx hb hT hown hK hP sR_0 rfl inR 5 (by decide) wf_R_30 rfl d_R_init_91 ?_
          refine lv_iload_n hx hb d_R_init_94 rfl (lv_at hl 1 rfl) ?_
          obtain ⟨g3, hf⟩ := xgd_some hf
          refine xr_aald hx hb hK hP sR_12 g3 d_R_init_95 ?_
          refine lv_iconst (v := (-1)) hx hb d_R_init_96 rfl ?_
          obtain ⟨M4, hM4, hf⟩ := xlt_some hf
          refine xc_ws (rest := []) F hT hK hP hS hAd (tJA_fill l G (sR_r12 g3) c3 ad hd M2 (-1)) wl_R_36 ws_JA_fill wn_JA wc_JA_fill ck_JA_fill ⟨rfl, rfl⟩ ⟨by decide, by decide⟩ ⟨by decide, by decide⟩ hl.1 rfl (Nat.le_of_ble_eq_true rfl) d_R_init_97 (fun H locs hP hS _ => ?_)
          rw [hM4] at hP
          refine lv_aload_n hx hb d_R_init_100 rfl (lv_at hl 0 rfl) ?_
          refine xr_getr hx hb hT hown hK hP sR_0 rfl inR 6 (by decide) wf_R_33 rfl d_R_init_101 ?_
          refine lv_iload_n hx hb d_R_init_104 rfl (lv_at hl 1 rfl) ?_
          obtain ⟨g5, hf⟩ := xgd_some hf
          refine xr_aald hx hb hK hP sR_19 g5 d_R_init_105 ?_
          refine lv_iconst (v := (-1)) hx hb d_R_init_106 rfl ?_
          obtain ⟨M6, hM6, hf⟩ := xlt_some hf
          refine xc_ws (rest := []) F hT hK hP hS hAd (tJA_fill l G (sR_r19 g5) c3 ad hd M4 (-1)) wl_R_36 ws_JA_fill wn_JA wc_JA_fill ck_JA_fill ⟨rfl, rfl⟩ ⟨by decide, by decide⟩ ⟨by decide, by decide⟩ hl.1 rfl (Nat.le_of_ble_eq_true rfl) d_R_init_107 (fun H locs hP hS _ => ?_)
          rw [hM6] at hP
          obtain ⟨x7, hx7, hf⟩ := xlt_some hf
          refine lv_iinc (k := 1) (lv' := [(1, .int x7), (0, .ref (ad 0))]) hx hb d_R_init_110 hl rfl hx7 (by decide) rfl (fun ls hl => ?_)
          refine lv_goto (tgt := 74) hx hb d_R_init_113 rfl ?_
          exact ih74 x7 M6 _ _ _ (lv_sub hl [1, 0] rfl) hP hS (xw_again hf hn74)
    exact LH74 n74 0 M _ _ _ (lv_sub hl [1, 0] rfl) hP hS hq74
  refine lv_aload_n hx hb d_R_init_0 rfl (lv_at hl 0 rfl) ?_
  refine W.objInit hx hb hown (hT.1 _ wl_R_3 _) (hT.1 _ wi_JO_init _) (hT.1 _ wc_JO_init _) rfl (hl.1.trans hml.symm) rfl d_R_init_1 (Nat.le_of_ble_eq_true rfl) (Nat.le_of_ble_eq_true rfl) ?_
  refine W.eq (g2 := F0 m 4 ls []) rfl ?_
  refine lv_aload_n hx hb d_R_init_4 rfl (lv_at hl 0 rfl) ?_
  refine lv_iconst (v := 4) hx hb d_R_init_5 rfl ?_
  refine xn_newa hx hb hT hK hP hD hS hA (N := 4) (by decide) (by decide) (by decide) (by decide) (by decide) d_R_init_6 (fun q6 H hP hD hS => ?_)
  have hP : va_P G kl (([(h0, .inr (1, [.null, .null, .null, .null, .null, .null, .null])), (q6, .inl (c3.1, 4, .inl (fun _ => 0)))] : va_W)) H := hP
  have hD : va_D (aC h0 sz) (([(h0, .inr (1, [.null, .null, .null, .null, .null, .null, .null])), (q6, .inl (c3.1, 4, .inl (fun _ => 0)))] : va_W)) := hD
  refine va_putF (D := G) (ci := 1) (v := .ref q6) (ty := (.array .int)) (C := RR) (T := TR) (N := 7) hx hb (hT.hts args) inR tyR tkR nmR hown hK hP hD hS 0 rfl rfl 0 (by decide) (hT.1 _ wf_R_9 _) (fun _ h9 => h9) rfl hin rfl (by decide +kernel) rfl rfl (Nat.le_of_ble_eq_true rfl) d_R_init_8 (fun H locs hP hD hS => ?_)
  have hP : va_P G kl (([(h0, .inr (1, [.ref q6, .null, .null, .null, .null, .null, .null])), (q6, .inl (c3.1, 4, .inl (fun _ => 0)))] : va_W)) H := hP
  have hD : va_D (aC h0 sz) (([(h0, .inr (1, [.ref q6, .null, .null, .null, .null, .null, .null])), (q6, .inl (c3.1, 4, .inl (fun _ => 0)))] : va_W)) := hD
  refine lv_aload_n hx hb d_R_init_11 rfl (lv_at hl 0 rfl) ?_
  refine lv_iconst (v := 4) hx hb d_R_init_12 rfl ?_
  refine xn_newa hx hb hT hK hP hD hS hA (N := 4) (by decide) (by decide) (by decide) (by decide) (by decide) d_R_init_13 (fun q13 H hP hD hS => ?_)
  have hP : va_P G kl (([(h0, .inr (1, [.ref q6, .null, .null, .null, .null, .null, .null])), (q6, .inl (c3.1, 4, .inl (fun _ => 0))), (q13, .inl (c3.1, 4, .inl (fun _ => 0)))] : va_W)) H := hP
  have hD : va_D (aC h0 sz) (([(h0, .inr (1, [.ref q6, .null, .null, .null, .null, .null, .null])), (q6, .inl (c3.1, 4, .inl (fun _ => 0))), (q13, .inl (c3.1, 4, .inl (fun _ => 0)))] : va_W)) := hD
  refine va_putF (D := G) (ci := 1) (v := .ref q13) (ty := (.array .int)) (C := RR) (T := TR) (N := 7) hx hb (hT.hts args) inR tyR tkR nmR hown hK hP hD hS 0 rfl rfl 1 (by decide) (hT.1 _ wf_R_15 _) (fun _ h9 => h9) rfl hin rfl (by decide +kernel) rfl rfl (Nat.le_of_ble_eq_true rfl) d_R_init_15 (fun H locs hP hD hS => ?_)
  have hP : va_P G kl (([(h0, .inr (1, [.ref q6, .ref q13, .null, .null, .null, .null, .null])), (q6, .inl (c3.1, 4, .inl (fun _ => 0))), (q13, .inl (c3.1, 4, .inl (fun _ => 0)))] : va_W)) H := hP
  have hD : va_D (aC h0 sz) (([(h0, .inr (1, [.ref q6, .ref q13, .null, .null, .null, .null, .null])), (q6, .inl (c3.1, 4, .inl (fun _ => 0))), (q13, .inl (c3.1, 4, .inl (fun _ => 0)))] : va_W)) := hD
  refine lv_aload_n hx hb d_R_init_18 rfl (lv_at hl 0 rfl) ?_
  refine lv_iconst (v := 4) hx hb d_R_init_19 rfl ?_
  refine xn_newz hx hb hT hK hP hD hS hA (N := 4) (by decide) (by decide) (by decide) (by decide) (by decide) d_R_init_20 (fun q20 H hP hD hS => ?_)
  have hP : va_P G kl (([(h0, .inr (1, [.ref q6, .ref q13, .null, .null, .null, .null, .null])), (q6, .inl (c3.1, 4, .inl (fun _ => 0))), (q13, .inl (c3.1, 4, .inl (fun _ => 0))), (q20, .inl (c3.2.1, 4, .inl (fun _ => 0)))] : va_W)) H := hP
  have hD : va_D (aC h0 sz) (([(h0, .inr (1, [.ref q6, .ref q13, .null, .null, .null, .null, .null])), (q6, .inl (c3.1, 4, .inl (fun _ => 0))), (q13, .inl (c3.1, 4, .inl (fun _ => 0))), (q20, .inl (c3.2.1, 4, .inl (fun _ => 0)))] : va_W)) := hD
  refine va_putF (D := G) (ci := 1) (v := .ref q20) (ty := (.array .boolean)) (C := RR) (T := TR) (N := 7) hx hb (hT.hts args) inR tyR tkR nmR hown hK hP hD hS 0 rfl rfl 2 (by decide) (hT.1 _ wf_R_18 _) (fun _ h9 => h9) rfl hin rfl (by decide +kernel) rfl rfl (Nat.le_of_ble_eq_true rfl) d_R_init_22 (fun H locs hP hD hS => ?_)
  have hP : va_P G kl (([(h0, .inr (1, [.ref q6, .ref q13, .ref q20, .null, .null, .null, .null])), (q6, .inl (c3.1, 4, .inl (fun _ => 0))), (q13, .inl (c3.1, 4, .inl (fun _ => 0))), (q20, .inl (c3.2.1, 4, .inl (fun _ => 0)))] : va_W)) H := hP
  have hD : va_D (aC h0 sz) (([(h0, .inr (1, [.ref q6, .ref q13, .ref q20, .null, .null, .null, .null])), (q6, .inl (c3.1, 4, .inl (fun _ => 0))), (q13, .inl (c3.1, 4, .inl (fun _ => 0))), (q20, .inl (c3.2.1, 4, .inl (fun _ => 0)))] : va_W)) := hD
  refine lv_aload_n hx hb d_R_init_25 rfl (lv_at hl 0 rfl) ?_
  refine lv_sipush (v := 144) hx hb d_R_init_26 rfl ?_
  refine xn_newz hx hb hT hK hP hD hS hA (N := 144) (by decide) (by decide) (by decide) (by decide) (by decide) d_R_init_29 (fun q29 H hP hD hS => ?_)
  have hP : va_P G kl (([(h0, .inr (1, [.ref q6, .ref q13, .ref q20, .null, .null, .null, .null])), (q6, .inl (c3.1, 4, .inl (fun _ => 0))), (q13, .inl (c3.1, 4, .inl (fun _ => 0))), (q20, .inl (c3.2.1, 4, .inl (fun _ => 0))), (q29, .inl (c3.2.1, 144, .inl (fun _ => 0)))] : va_W)) H := hP
  have hD : va_D (aC h0 sz) (([(h0, .inr (1, [.ref q6, .ref q13, .ref q20, .null, .null, .null, .null])), (q6, .inl (c3.1, 4, .inl (fun _ => 0))), (q13, .inl (c3.1, 4, .inl (fun _ => 0))), (q20, .inl (c3.2.1, 4, .inl (fun _ => 0))), (q29, .inl (c3.2.1, 144, .inl (fun _ => 0)))] : va_W)) := hD
  refine va_putF (D := G) (ci := 1) (v := .ref q29) (ty := (.array .boolean)) (C := RR) (T := TR) (N := 7) hx hb (hT.hts args) inR tyR tkR nmR hown hK hP hD hS 0 rfl rfl 3 (by decide) (hT.1 _ wf_R_22 _) (fun _ h9 => h9) rfl hin rfl (by decide +kernel) rfl rfl (Nat.le_of_ble_eq_true rfl) d_R_init_31 (fun H locs hP hD hS => ?_)
  have hP : va_P G kl (([(h0, .inr (1, [.ref q6, .ref q13, .ref q20, .ref q29, .null, .null, .null])), (q6, .inl (c3.1, 4, .inl (fun _ => 0))), (q13, .inl (c3.1, 4, .inl (fun _ => 0))), (q20, .inl (c3.2.1, 4, .inl (fun _ => 0))), (q29, .inl (c3.2.1, 144, .inl (fun _ => 0)))] : va_W)) H := hP
  have hD : va_D (aC h0 sz) (([(h0, .inr (1, [.ref q6, .ref q13, .ref q20, .ref q29, .null, .null, .null])), (q6, .inl (c3.1, 4, .inl (fun _ => 0))), (q13, .inl (c3.1, 4, .inl (fun _ => 0))), (q20, .inl (c3.2.1, 4, .inl (fun _ => 0))), (q29, .inl (c3.2.1, 144, .inl (fun _ => 0)))] : va_W)) := hD
  refine lv_aload_n hx hb d_R_init_34 rfl (lv_at hl 0 rfl) ?_
  refine lv_bipush (v := 6) hx hb d_R_init_35 rfl ?_
  refine lv_sipush (v := 144) hx hb d_R_init_37 rfl ?_
  refine xn_mna hx hb hown (hT.1 _ wq_R_25 _) hao hP hD hS hA (N := 6) (K := 144) (by decide) (by decide) (by decide) (by decide) (by decide) (by decide) (by decide) (by decide) d_R_init_40 (fun q40 fO40 H hO40 hP hD hS => ?_)
  have hP : va_P G kl (([(h0, .inr (1, [.ref q6, .ref q13, .ref q20, .ref q29, .null, .null, .null])), (q6, .inl (c3.1, 4, .inl (fun _ => 0))), (q13, .inl (c3.1, 4, .inl (fun _ => 0))), (q20, .inl (c3.2.1, 4, .inl (fun _ => 0))), (q29, .inl (c3.2.1, 144, .inl (fun _ => 0))), (q40, .inl (c3.2.2, 6, .inr (.inr (.inr (.inr fO40))))), (q40 + 1 + 0, .inl (c3.1, 144, .inl (fun _ => 0))), (q40 + 1 + 1, .inl (c3.1, 144, .inl (fun _ => 0))), (q40 + 1 + 2, .inl (c3.1, 144, .inl (fun _ => 0))), (q40 + 1 + 3, .inl (c3.1, 144, .inl (fun _ => 0))), (q40 + 1 + 4, .inl (c3.1, 144, .inl (fun _ => 0))), (q40 + 1 + 5, .inl (c3.1, 144, .inl (fun _ => 0)))] : va_W)) H := hP
  have hD : va_D (aC h0 sz) (([(h0, .inr (1, [.ref q6, .ref q13, .ref q20, .ref q29, .null, .null, .null])), (q6, .inl (c3.1, 4, .inl (fun _ => 0))), (q13, .inl (c3.1, 4, .inl (fun _ => 0))), (q20, .inl (c3.2.1, 4, .inl (fun _ => 0))), (q29, .inl (c3.2.1, 144, .inl (fun _ => 0))), (q40, .inl (c3.2.2, 6, .inr (.inr (.inr (.inr fO40))))), (q40 + 1 + 0, .inl (c3.1, 144, .inl (fun _ => 0))), (q40 + 1 + 1, .inl (c3.1, 144, .inl (fun _ => 0))), (q40 + 1 + 2, .inl (c3.1, 144, .inl (fun _ => 0))), (q40 + 1 + 3, .inl (c3.1, 144, .inl (fun _ => 0))), (q40 + 1 + 4, .inl (c3.1, 144, .inl (fun _ => 0))), (q40 + 1 + 5, .inl (c3.1, 144, .inl (fun _ => 0)))] : va_W)) := hD
  refine va_putF (D := G) (ci := 1) (v := .ref q40) (ty := (.array (.array .int))) (C := RR) (T := TR) (N := 7) hx hb (hT.hts args) inR tyR tkR nmR hown hK hP hD hS 0 rfl rfl 4 (by decide) (hT.1 _ wf_R_27 _) (fun _ h9 => h9) rfl hin rfl (by decide +kernel) rfl rfl (Nat.le_of_ble_eq_true rfl) d_R_init_44 (fun H locs hP hD hS => ?_)
  have hP : va_P G kl (([(h0, .inr (1, [.ref q6, .ref q13, .ref q20, .ref q29, .ref q40, .null, .null])), (q6, .inl (c3.1, 4, .inl (fun _ => 0))), (q13, .inl (c3.1, 4, .inl (fun _ => 0))), (q20, .inl (c3.2.1, 4, .inl (fun _ => 0))), (q29, .inl (c3.2.1, 144, .inl (fun _ => 0))), (q40, .inl (c3.2.2, 6, .inr (.inr (.inr (.inr fO40))))), (q40 + 1 + 0, .inl (c3.1, 144, .inl (fun _ => 0))), (q40 + 1 + 1, .inl (c3.1, 144, .inl (fun _ => 0))), (q40 + 1 + 2, .inl (c3.1, 144, .inl (fun _ => 0))), (q40 + 1 + 3, .inl (c3.1, 144, .inl (fun _ => 0))), (q40 + 1 + 4, .inl (c3.1, 144, .inl (fun _ => 0))), (q40 + 1 + 5, .inl (c3.1, 144, .inl (fun _ => 0)))] : va_W)) H := hP
  have hD : va_D (aC h0 sz) (([(h0, .inr (1, [.ref q6, .ref q13, .ref q20, .ref q29, .ref q40, .null, .null])), (q6, .inl (c3.1, 4, .inl (fun _ => 0))), (q13, .inl (c3.1, 4, .inl (fun _ => 0))), (q20, .inl (c3.2.1, 4, .inl (fun _ => 0))), (q29, .inl (c3.2.1, 144, .inl (fun _ => 0))), (q40, .inl (c3.2.2, 6, .inr (.inr (.inr (.inr fO40))))), (q40 + 1 + 0, .inl (c3.1, 144, .inl (fun _ => 0))), (q40 + 1 + 1, .inl (c3.1, 144, .inl (fun _ => 0))), (q40 + 1 + 2, .inl (c3.1, 144, .inl (fun _ => 0))), (q40 + 1 + 3, .inl (c3.1, 144, .inl (fun _ => 0))), (q40 + 1 + 4, .inl (c3.1, 144, .inl (fun _ => 0))), (q40 + 1 + 5, .inl (c3.1, 144, .inl (fun _ => 0)))] : va_W)) := hD
  refine lv_aload_n hx hb d_R_init_47 rfl (lv_at hl 0 rfl) ?_
  refine lv_bipush (v := 6) hx hb d_R_init_48 rfl ?_
  refine lv_sipush (v := 144) hx hb d_R_init_50 rfl ?_
  refine xn_mna hx hb hown (hT.1 _ wq_R_25 _) hao hP hD hS hA (N := 6) (K := 144) (by decide) (by decide) (by decide) (by decide) (by decide) (by decide) (by decide) (by decide) d_R_init_53 (fun q53 fO53 H hO53 hP hD hS => ?_)
  have hP : va_P G kl (([(h0, .inr (1, [.ref q6, .ref q13, .ref q20, .ref q29, .ref q40, .null, .null])), (q6, .inl (c3.1, 4, .inl (fun _ => 0))), (q13, .inl (c3.1, 4, .inl (fun _ => 0))), (q20, .inl (c3.2.1, 4, .inl (fun _ => 0))), (q29, .inl (c3.2.1, 144, .inl (fun _ => 0))), (q40, .inl (c3.2.2, 6, .inr (.inr (.inr (.inr fO40))))), (q40 + 1 + 0, .inl (c3.1, 144, .inl (fun _ => 0))), (q40 + 1 + 1, .inl (c3.1, 144, .inl (fun _ => 0))), (q40 + 1 + 2, .inl (c3.1, 144, .inl (fun _ => 0))), (q40 + 1 + 3, .inl (c3.1, 144, .inl (fun _ => 0))), (q40 + 1 + 4, .inl (c3.1, 144, .inl (fun _ => 0))), (q40 + 1 + 5, .inl (c3.1, 144, .inl (fun _ => 0))), (q53, .inl (c3.2.2, 6, .inr (.inr (.inr (.inr fO53))))), (q53 + 1 + 0, .inl (c3.1, 144, .inl (fun _ => 0))), (q53 + 1 + 1, .inl (c3.1, 144, .inl (fun _ => 0))), (q53 + 1 + 2, .inl (c3.1, 144, .inl (fun _ => 0))), (q53 + 1 + 3, .inl (c3.1, 144, .inl (fun _ => 0))), (q53 + 1 + 4, .inl (c3.1, 144, .inl (fun _ => 0))), (q53 + 1 + 5, .inl (c3.1, 144, .inl (fun _ => 0)))] : va_W)) H := hP
  have hD : va_D (aC h0 sz) (([(h0, .inr (1, [.ref q6, .ref q13, .ref q20, .ref q29, .ref q40, .null, .null])), (q6, .inl (c3.1, 4, .inl (fun _ => 0))), (q13, .inl (c3.1, 4, .inl (fun _ => 0))), (q20, .inl (c3.2.1, 4, .inl (fun _ => 0))), (q29, .inl (c3.2.1, 144, .inl (fun _ => 0))), (q40, .inl (c3.2.2, 6, .inr (.inr (.inr (.inr fO40))))), (q40 + 1 + 0, .inl (c3.1, 144, .inl (fun _ => 0))), (q40 + 1 + 1, .inl (c3.1, 144, .inl (fun _ => 0))), (q40 + 1 + 2, .inl (c3.1, 144, .inl (fun _ => 0))), (q40 + 1 + 3, .inl (c3.1, 144, .inl (fun _ => 0))), (q40 + 1 + 4, .inl (c3.1, 144, .inl (fun _ => 0))), (q40 + 1 + 5, .inl (c3.1, 144, .inl (fun _ => 0))), (q53, .inl (c3.2.2, 6, .inr (.inr (.inr (.inr fO53))))), (q53 + 1 + 0, .inl (c3.1, 144, .inl (fun _ => 0))), (q53 + 1 + 1, .inl (c3.1, 144, .inl (fun _ => 0))), (q53 + 1 + 2, .inl (c3.1, 144, .inl (fun _ => 0))), (q53 + 1 + 3, .inl (c3.1, 144, .inl (fun _ => 0))), (q53 + 1 + 4, .inl (c3.1, 144, .inl (fun _ => 0))), (q53 + 1 + 5, .inl (c3.1, 144, .inl (fun _ => 0)))] : va_W)) := hD
  refine va_putF (D := G) (ci := 1) (v := .ref q53) (ty := (.array (.array .int))) (C := RR) (T := TR) (N := 7) hx hb (hT.hts args) inR tyR tkR nmR hown hK hP hD hS 0 rfl rfl 5 (by decide) (hT.1 _ wf_R_30 _) (fun _ h9 => h9) rfl hin rfl (by decide +kernel) rfl rfl (Nat.le_of_ble_eq_true rfl) d_R_init_57 (fun H locs hP hD hS => ?_)
  have hP : va_P G kl (([(h0, .inr (1, [.ref q6, .ref q13, .ref q20, .ref q29, .ref q40, .ref q53, .null])), (q6, .inl (c3.1, 4, .inl (fun _ => 0))), (q13, .inl (c3.1, 4, .inl (fun _ => 0))), (q20, .inl (c3.2.1, 4, .inl (fun _ => 0))), (q29, .inl (c3.2.1, 144, .inl (fun _ => 0))), (q40, .inl (c3.2.2, 6, .inr (.inr (.inr (.inr fO40))))), (q40 + 1 + 0, .inl (c3.1, 144, .inl (fun _ => 0))), (q40 + 1 + 1, .inl (c3.1, 144, .inl (fun _ => 0))), (q40 + 1 + 2, .inl (c3.1, 144, .inl (fun _ => 0))), (q40 + 1 + 3, .inl (c3.1, 144, .inl (fun _ => 0))), (q40 + 1 + 4, .inl (c3.1, 144, .inl (fun _ => 0))), (q40 + 1 + 5, .inl (c3.1, 144, .inl (fun _ => 0))), (q53, .inl (c3.2.2, 6, .inr (.inr (.inr (.inr fO53))))), (q53 + 1 + 0, .inl (c3.1, 144, .inl (fun _ => 0))), (q53 + 1 + 1, .inl (c3.1, 144, .inl (fun _ => 0))), (q53 + 1 + 2, .inl (c3.1, 144, .inl (fun _ => 0))), (q53 + 1 + 3, .inl (c3.1, 144, .inl (fun _ => 0))), (q53 + 1 + 4, .inl (c3.1, 144, .inl (fun _ => 0))), (q53 + 1 + 5, .inl (c3.1, 144, .inl (fun _ => 0)))] : va_W)) H := hP
  have hD : va_D (aC h0 sz) (([(h0, .inr (1, [.ref q6, .ref q13, .ref q20, .ref q29, .ref q40, .ref q53, .null])), (q6, .inl (c3.1, 4, .inl (fun _ => 0))), (q13, .inl (c3.1, 4, .inl (fun _ => 0))), (q20, .inl (c3.2.1, 4, .inl (fun _ => 0))), (q29, .inl (c3.2.1, 144, .inl (fun _ => 0))), (q40, .inl (c3.2.2, 6, .inr (.inr (.inr (.inr fO40))))), (q40 + 1 + 0, .inl (c3.1, 144, .inl (fun _ => 0))), (q40 + 1 + 1, .inl (c3.1, 144, .inl (fun _ => 0))), (q40 + 1 + 2, .inl (c3.1, 144, .inl (fun _ => 0))), (q40 + 1 + 3, .inl (c3.1, 144, .inl (fun _ => 0))), (q40 + 1 + 4, .inl (c3.1, 144, .inl (fun _ => 0))), (q40 + 1 + 5, .inl (c3.1, 144, .inl (fun _ => 0))), (q53, .inl (c3.2.2, 6, .inr (.inr (.inr (.inr fO53))))), (q53 + 1 + 0, .inl (c3.1, 144, .inl (fun _ => 0))), (q53 + 1 + 1, .inl (c3.1, 144, .inl (fun _ => 0))), (q53 + 1 + 2, .inl (c3.1, 144, .inl (fun _ => 0))), (q53 + 1 + 3, .inl (c3.1, 144, .inl (fun _ => 0))), (q53 + 1 + 4, .inl (c3.1, 144, .inl (fun _ => 0))), (q53 + 1 + 5, .inl (c3.1, 144, .inl (fun _ => 0)))] : va_W)) := hD
  refine lv_aload_n hx hb d_R_init_60 rfl (lv_at hl 0 rfl) ?_
  refine lv_bipush (v := 6) hx hb d_R_init_61 rfl ?_
  refine lv_bipush (v := 40) hx hb d_R_init_63 rfl ?_
  refine xn_mna hx hb hown (hT.1 _ wq_R_25 _) hao hP hD hS hA (N := 6) (K := 40) (by decide) (by decide) (by decide) (by decide) (by decide) (by decide) (by decide) (by decide) d_R_init_65 (fun q65 fO65 H hO65 hP hD hS => ?_)
  have hP : va_P G kl (([(h0, .inr (1, [.ref q6, .ref q13, .ref q20, .ref q29, .ref q40, .ref q53, .null])), (q6, .inl (c3.1, 4, .inl (fun _ => 0))), (q13, .inl (c3.1, 4, .inl (fun _ => 0))), (q20, .inl (c3.2.1, 4, .inl (fun _ => 0))), (q29, .inl (c3.2.1, 144, .inl (fun _ => 0))), (q40, .inl (c3.2.2, 6, .inr (.inr (.inr (.inr fO40))))), (q40 + 1 + 0, .inl (c3.1, 144, .inl (fun _ => 0))), (q40 + 1 + 1, .inl (c3.1, 144, .inl (fun _ => 0))), (q40 + 1 + 2, .inl (c3.1, 144, .inl (fun _ => 0))), (q40 + 1 + 3, .inl (c3.1, 144, .inl (fun _ => 0))), (q40 + 1 + 4, .inl (c3.1, 144, .inl (fun _ => 0))), (q40 + 1 + 5, .inl (c3.1, 144, .inl (fun _ => 0))), (q53, .inl (c3.2.2, 6, .inr (.inr (.inr (.inr fO53))))), (q53 + 1 + 0, .inl (c3.1, 144, .inl (fun _ => 0))), (q53 + 1 + 1, .inl (c3.1, 144, .inl (fun _ => 0))), (q53 + 1 + 2, .inl (c3.1, 144, .inl (fun _ => 0))), (q53 + 1 + 3, .inl (c3.1, 144, .inl (fun _ => 0))), (q53 + 1 + 4, .inl (c3.1, 144, .inl (fun _ => 0))), (q53 + 1 + 5, .inl (c3.1, 144, .inl (fun _ => 0))), (q65, .inl (c3.2.2, 6, .inr (.inr (.inr (.inr fO65))))), (q65 + 1 + 0, .inl (c3.1, 40, .inl (fun _ => 0))), (q65 + 1 + 1, .inl (c3.1, 40, .inl (fun _ => 0))), (q65 + 1 + 2, .inl (c3.1, 40, .inl (fun _ => 0))), (q65 + 1 + 3, .inl (c3.1, 40, .inl (fun _ => 0))), (q65 + 1 + 4, .inl (c3.1, 40, .inl (fun _ => 0))), (q65 + 1 + 5, .inl (c3.1, 40, .inl (fun _ => 0)))] : va_W)) H := hP
  have hD : va_D (aC h0 sz) (([(h0, .inr (1, [.ref q6, .ref q13, .ref q20, .ref q29, .ref q40, .ref q53, .null])), (q6, .inl (c3.1, 4, .inl (fun _ => 0))), (q13, .inl (c3.1, 4, .inl (fun _ => 0))), (q20, .inl (c3.2.1, 4, .inl (fun _ => 0))), (q29, .inl (c3.2.1, 144, .inl (fun _ => 0))), (q40, .inl (c3.2.2, 6, .inr (.inr (.inr (.inr fO40))))), (q40 + 1 + 0, .inl (c3.1, 144, .inl (fun _ => 0))), (q40 + 1 + 1, .inl (c3.1, 144, .inl (fun _ => 0))), (q40 + 1 + 2, .inl (c3.1, 144, .inl (fun _ => 0))), (q40 + 1 + 3, .inl (c3.1, 144, .inl (fun _ => 0))), (q40 + 1 + 4, .inl (c3.1, 144, .inl (fun _ => 0))), (q40 + 1 + 5, .inl (c3.1, 144, .inl (fun _ => 0))), (q53, .inl (c3.2.2, 6, .inr (.inr (.inr (.inr fO53))))), (q53 + 1 + 0, .inl (c3.1, 144, .inl (fun _ => 0))), (q53 + 1 + 1, .inl (c3.1, 144, .inl (fun _ => 0))), (q53 + 1 + 2, .inl (c3.1, 144, .inl (fun _ => 0))), (q53 + 1 + 3, .inl (c3.1, 144, .inl (fun _ => 0))), (q53 + 1 + 4, .inl (c3.1, 144, .inl (fun _ => 0))), (q53 + 1 + 5, .inl (c3.1, 144, .inl (fun _ => 0))), (q65, .inl (c3.2.2, 6, .inr (.inr (.inr (.inr fO65))))), (q65 + 1 + 0, .inl (c3.1, 40, .inl (fun _ => 0))), (q65 + 1 + 1, .inl (c3.1, 40, .inl (fun _ => 0))), (q65 + 1 + 2, .inl (c3.1, 40, .inl (fun _ => 0))), (q65 + 1 + 3, .inl (c3.1, 40, .inl (fun _ => 0))), (q65 + 1 + 4, .inl (c3.1, 40, .inl (fun _ => 0))), (q65 + 1 + 5, .inl (c3.1, 40, .inl (fun _ => 0)))] : va_W)) := hD
  refine va_putF (D := G) (ci := 1) (v := .ref q65) (ty := (.array (.array .int))) (C := RR) (T := TR) (N := 7) hx hb (hT.hts args) inR tyR tkR nmR hown hK hP hD hS 0 rfl rfl 6 (by decide) (hT.1 _ wf_R_33 _) (fun _ h9 => h9) rfl hin rfl (by decide +kernel) rfl rfl (Nat.le_of_ble_eq_true rfl) d_R_init_69 (fun H locs hP hD hS => ?_)
  have hP : va_P G kl (([(h0, .inr (1, [.ref q6, .ref q13, .ref q20, .ref q29, .ref q40, .ref q53, .ref q65])), (q6, .inl (c3.1, 4, .inl (fun _ => 0))), (q13, .inl (c3.1, 4, .inl (fun _ => 0))), (q20, .inl (c3.2.1, 4, .inl (fun _ => 0))), (q29, .inl (c3.2.1, 144, .inl (fun _ => 0))), (q40, .inl (c3.2.2, 6, .inr (.inr (.inr (.inr fO40))))), (q40 + 1 + 0, .inl (c3.1, 144, .inl (fun _ => 0))), (q40 + 1 + 1, .inl (c3.1, 144, .inl (fun _ => 0))), (q40 + 1 + 2, .inl (c3.1, 144, .inl (fun _ => 0))), (q40 + 1 + 3, .inl (c3.1, 144, .inl (fun _ => 0))), (q40 + 1 + 4, .inl (c3.1, 144, .inl (fun _ => 0))), (q40 + 1 + 5, .inl (c3.1, 144, .inl (fun _ => 0))), (q53, .inl (c3.2.2, 6, .inr (.inr (.inr (.inr fO53))))), (q53 + 1 + 0, .inl (c3.1, 144, .inl (fun _ => 0))), (q53 + 1 + 1, .inl (c3.1, 144, .inl (fun _ => 0))), (q53 + 1 + 2, .inl (c3.1, 144, .inl (fun _ => 0))), (q53 + 1 + 3, .inl (c3.1, 144, .inl (fun _ => 0))), (q53 + 1 + 4, .inl (c3.1, 144, .inl (fun _ => 0))), (q53 + 1 + 5, .inl (c3.1, 144, .inl (fun _ => 0))), (q65, .inl (c3.2.2, 6, .inr (.inr (.inr (.inr fO65))))), (q65 + 1 + 0, .inl (c3.1, 40, .inl (fun _ => 0))), (q65 + 1 + 1, .inl (c3.1, 40, .inl (fun _ => 0))), (q65 + 1 + 2, .inl (c3.1, 40, .inl (fun _ => 0))), (q65 + 1 + 3, .inl (c3.1, 40, .inl (fun _ => 0))), (q65 + 1 + 4, .inl (c3.1, 40, .inl (fun _ => 0))), (q65 + 1 + 5, .inl (c3.1, 40, .inl (fun _ => 0)))] : va_W)) H := hP
  have hD : va_D (aC h0 sz) (([(h0, .inr (1, [.ref q6, .ref q13, .ref q20, .ref q29, .ref q40, .ref q53, .ref q65])), (q6, .inl (c3.1, 4, .inl (fun _ => 0))), (q13, .inl (c3.1, 4, .inl (fun _ => 0))), (q20, .inl (c3.2.1, 4, .inl (fun _ => 0))), (q29, .inl (c3.2.1, 144, .inl (fun _ => 0))), (q40, .inl (c3.2.2, 6, .inr (.inr (.inr (.inr fO40))))), (q40 + 1 + 0, .inl (c3.1, 144, .inl (fun _ => 0))), (q40 + 1 + 1, .inl (c3.1, 144, .inl (fun _ => 0))), (q40 + 1 + 2, .inl (c3.1, 144, .inl (fun _ => 0))), (q40 + 1 + 3, .inl (c3.1, 144, .inl (fun _ => 0))), (q40 + 1 + 4, .inl (c3.1, 144, .inl (fun _ => 0))), (q40 + 1 + 5, .inl (c3.1, 144, .inl (fun _ => 0))), (q53, .inl (c3.2.2, 6, .inr (.inr (.inr (.inr fO53))))), (q53 + 1 + 0, .inl (c3.1, 144, .inl (fun _ => 0))), (q53 + 1 + 1, .inl (c3.1, 144, .inl (fun _ => 0))), (q53 + 1 + 2, .inl (c3.1, 144, .inl (fun _ => 0))), (q53 + 1 + 3, .inl (c3.1, 144, .inl (fun _ => 0))), (q53 + 1 + 4, .inl (c3.1, 144, .inl (fun _ => 0))), (q53 + 1 + 5, .inl (c3.1, 144, .inl (fun _ => 0))), (q65, .inl (c3.2.2, 6, .inr (.inr (.inr (.inr fO65))))), (q65 + 1 + 0, .inl (c3.1, 40, .inl (fun _ => 0))), (q65 + 1 + 1, .inl (c3.1, 40, .inl (fun _ => 0))), (q65 + 1 + 2, .inl (c3.1, 40, .inl (fun _ => 0))), (q65 + 1 + 3, .inl (c3.1, 40, .inl (fun _ => 0))), (q65 + 1 + 4, .inl (c3.1, 40, .inl (fun _ => 0))), (q65 + 1 + 5, .inl (c3.1, 40, .inl (fun _ => 0)))] : va_W)) := hD
  have efO40 : fO40 = fun i => if i < 6 then some ((fun k => ([h0, q6, q13, q20, q29, q40, q40 + 1 + 0, q40 + 1 + 1, q40 + 1 + 2, q40 + 1 + 3, q40 + 1 + 4, q40 + 1 + 5, q53, q53 + 1 + 0, q53 + 1 + 1, q53 + 1 + 2, q53 + 1 + 3, q53 + 1 + 4, q53 + 1 + 5, q65, q65 + 1 + 0, q65 + 1 + 1, q65 + 1 + 2, q65 + 1 + 3, q65 + 1 + 4, q65 + 1 + 5] : List Nat).getD k 0) (5 + 1 + i)) else none := by
    funext i
    rw [hO40 i]
    by_cases hi : i < 6
    · rw [if_pos hi, if_pos hi]
      match i, hi with
      | 0, _ => rfl
      | 1, _ => rfl
      | 2, _ => rfl
      | 3, _ => rfl
      | 4, _ => rfl
      | 5, _ => rfl
      | n + 6, h => exact absurd h (by omega)
    · rw [if_neg hi, if_neg hi]
  rw [efO40] at hP hD
  have efO53 : fO53 = fun i => if i < 6 then some ((fun k => ([h0, q6, q13, q20, q29, q40, q40 + 1 + 0, q40 + 1 + 1, q40 + 1 + 2, q40 + 1 + 3, q40 + 1 + 4, q40 + 1 + 5, q53, q53 + 1 + 0, q53 + 1 + 1, q53 + 1 + 2, q53 + 1 + 3, q53 + 1 + 4, q53 + 1 + 5, q65, q65 + 1 + 0, q65 + 1 + 1, q65 + 1 + 2, q65 + 1 + 3, q65 + 1 + 4, q65 + 1 + 5] : List Nat).getD k 0) (12 + 1 + i)) else none := by
    funext i
    rw [hO53 i]
    by_cases hi : i < 6
    · rw [if_pos hi, if_pos hi]
      match i, hi with
      | 0, _ => rfl
      | 1, _ => rfl
      | 2, _ => rfl
      | 3, _ => rfl
      | 4, _ => rfl
      | 5, _ => rfl
      | n + 6, h => exact absurd h (by omega)
    · rw [if_neg hi, if_neg hi]
  rw [efO53] at hP hD
  have efO65 : fO65 = fun i => if i < 6 then some ((fun k => ([h0, q6, q13, q20, q29, q40, q40 + 1 + 0, q40 + 1 + 1, q40 + 1 + 2, q40 + 1 + 3, q40 + 1 + 4, q40 + 1 + 5, q53, q53 + 1 + 0, q53 + 1 + 1, q53 + 1 + 2, q53 + 1 + 3, q53 + 1 + 4, q53 + 1 + 5, q65, q65 + 1 + 0, q65 + 1 + 1, q65 + 1 + 2, q65 + 1 + 3, q65 + 1 + 4, q65 + 1 + 5] : List Nat).getD k 0) (19 + 1 + i)) else none := by
    funext i
    rw [hO65 i]
    by_cases hi : i < 6
    · rw [if_pos hi, if_pos hi]
      match i, hi with
      | 0, _ => rfl
      | 1, _ => rfl
      | 2, _ => rfl
      | 3, _ => rfl
      | 4, _ => rfl
      | 5, _ => rfl
      | n + 6, h => exact absurd h (by omega)
    · rw [if_neg hi, if_neg hi]
  rw [efO65] at hP hD
  have hge : ∀ k, 0 < k → k < 26 → sz ≤ (fun k => ([h0, q6, q13, q20, q29, q40, q40 + 1 + 0, q40 + 1 + 1, q40 + 1 + 2, q40 + 1 + 3, q40 + 1 + 4, q40 + 1 + 5, q53, q53 + 1 + 0, q53 + 1 + 1, q53 + 1 + 2, q53 + 1 + 3, q53 + 1 + 4, q53 + 1 + 5, q65, q65 + 1 + 0, q65 + 1 + 1, q65 + 1 + 2, q65 + 1 + 3, q65 + 1 + 4, q65 + 1 + 5] : List Nat).getD k 0) k := by
    intro k h1 h2
    have hAk : aC h0 sz ((fun k => ([h0, q6, q13, q20, q29, q40, q40 + 1 + 0, q40 + 1 + 1, q40 + 1 + 2, q40 + 1 + 3, q40 + 1 + 4, q40 + 1 + 5, q53, q53 + 1 + 0, q53 + 1 + 1, q53 + 1 + 2, q53 + 1 + 3, q53 + 1 + 4, q53 + 1 + 5, q65, q65 + 1 + 0, q65 + 1 + 1, q65 + 1 + 2, q65 + 1 + 3, q65 + 1 + 4, q65 + 1 + 5] : List Nat).getD k 0) k) := ((show va_D (aC h0 sz) (wd SR c3 (fun k => ([h0, q6, q13, q20, q29, q40, q40 + 1 + 0, q40 + 1 + 1, q40 + 1 + 2, q40 + 1 + 3, q40 + 1 + 4, q40 + 1 + 5, q53, q53 + 1 + 0, q53 + 1 + 1, q53 + 1 + 2, q53 + 1 + 3, q53 + 1 + 4, q53 + 1 + 5, q65, q65 + 1 + 0, q65 + 1 + 1, q65 + 1 + 2, q65 + 1 + 3, q65 + 1 + 4, q65 + 1 + 5] : List Nat).getD k 0) ((fun _ _ => 0) : Mem)) from hD).2 k _ (wd_at (List.getElem?_eq_getElem (show k < SR.length from h2))))
    rcases hAk with h | h
    · have := adI_of (show va_D (aC h0 sz) (wd SR c3 (fun k => ([h0, q6, q13, q20, q29, q40, q40 + 1 + 0, q40 + 1 + 1, q40 + 1 + 2, q40 + 1 + 3, q40 + 1 + 4, q40 + 1 + 5, q53, q53 + 1 + 0, q53 + 1 + 1, q53 + 1 + 2, q53 + 1 + 3, q53 + 1 + 4, q53 + 1 + 5, q65, q65 + 1 + 0, q65 + 1 + 1, q65 + 1 + 2, q65 + 1 + 3, q65 + 1 + 4, q65 + 1 + 5] : List Nat).getD k 0) ((fun _ _ => 0) : Mem)) from hD) k 0 h2 (by decide) h
      omega
    · exact h
  exact P2 (fun k => ([h0, q6, q13, q20, q29, q40, q40 + 1 + 0, q40 + 1 + 1, q40 + 1 + 2, q40 + 1 + 3, q40 + 1 + 4, q40 + 1 + 5, q53, q53 + 1 + 0, q53 + 1 + 1, q53 + 1 + 2, q53 + 1 + 3, q53 + 1 + 4, q53 + 1 + 5, q65, q65 + 1 + 0, q65 + 1 + 1, q65 + 1 + 2, q65 + 1 + 3, q65 + 1 + 4, q65 + 1 + 5] : List Nat).getD k 0) H _ _ rfl hge hP hD hS hl
noncomputable def fO_init (M : Mem) : Option (Mem) := some M
set_option maxHeartbeats 4000000 in
set_option maxRecDepth 100000 in
theorem zO_init (l : Launch) (G : va_G) (c3 : ClassId × ClassId × ClassId) (sz h0 : Nat) (out : Mem) (hf : fO_init ((fun _ _ => 0) : Mem) = some out) : CMet l yO_init cO_init 1 ({ frames := 1, cells := 11, slots := 58, locals := 40 } : Room) G c3 SO sz h0 2 [.null, .null, .null, .null, .null] out 11 58 := by
  refine CMet.of (by decide +kernel) rfl (by decide) (fun p e s m args below meth c ls F hT hK hao hsz hP hD hS hA hr hlk hin hl => ?_)
  have hx := F.1
  have hb := F.2.1
  have hml := F.2.2.1
  have F : CallFix p m c cO_init 1 s args gw RO := F
  have hown := F.2.2.2.1
  have P2 : ∀ (ad : Nat → Nat) (H : Heap) (locs : List Loc) (ls : Array Slot), ad 0 = h0 → (∀ k, 0 < k → k < 12 → sz ≤ ad k) → va_P G kl (wd SO c3 ad ((fun _ _ => 0) : Mem)) H → va_D (aC h0 sz) (wd SO c3 ad ((fun _ _ => 0) : Mem)) → va_S (aC h0 sz) s.heap H locs → lv_has ls 1 [(0, .ref h0)] → W p l e ({ frames := 1, cells := 11, slots := 58, locals := 40 } : Room) s m args below meth c H locs 11 58 (MQ below (QC G c3 SO h0 sz out) args s 11 58 (aC h0 sz)) (F0 m 45 ls []) := by
    clear hP hD hS hl
    intro ad H locs ls had hge hP hD hS hl
    have hd := adI_of hD
    have hAd := adA_of hD
    subst had
    generalize hM0 : ((fun _ _ => 0) : Mem) = M at hP hf
    clear hM0 hD
    unfold fO_init at hf
    exact xw_cret hx hb hr hlk hS rfl hge hd hAd hP (Option.some.inj hf) d_O_init_45
  refine lv_aload_n hx hb d_O_init_0 rfl (lv_at hl 0 rfl) ?_
  refine W.objInit hx hb hown (hT.1 _ wl_O_3 _) (hT.1 _ wi_JO_init _) (hT.1 _ wc_JO_init _) rfl (hl.1.trans hml.symm) rfl d_O_init_1 (Nat.le_of_ble_eq_true rfl) (Nat.le_of_ble_eq_true rfl) ?_
  refine W.eq (g2 := F0 m 4 ls []) rfl ?_
  refine lv_aload_n hx hb d_O_init_4 rfl (lv_at hl 0 rfl) ?_
  refine lv_bipush (v := 10) hx hb d_O_init_5 rfl ?_
  refine xn_newa hx hb hT hK hP hD hS hA (N := 10) (by decide) (by decide) (by decide) (by decide) (by decide) d_O_init_7 (fun q7 H hP hD hS => ?_)
  have hP : va_P G kl (([(h0, .inr (2, [.null, .null, .null, .null, .null])), (q7, .inl (c3.1, 10, .inl (fun _ => 0)))] : va_W)) H := hP
  have hD : va_D (aC h0 sz) (([(h0, .inr (2, [.null, .null, .null, .null, .null])), (q7, .inl (c3.1, 10, .inl (fun _ => 0)))] : va_W)) := hD
  refine va_putF (D := G) (ci := 2) (v := .ref q7) (ty := (.array .int)) (C := RO) (T := TO) (N := 5) hx hb (hT.hts args) inO tyO tkO nmO hown hK hP hD hS 0 rfl rfl 0 (by decide) (hT.1 _ wf_O_9 _) (fun _ h9 => h9) rfl hin rfl (by decide +kernel) rfl rfl (Nat.le_of_ble_eq_true rfl) d_O_init_9 (fun H locs hP hD hS => ?_)
  have hP : va_P G kl (([(h0, .inr (2, [.ref q7, .null, .null, .null, .null])), (q7, .inl (c3.1, 10, .inl (fun _ => 0)))] : va_W)) H := hP
  have hD : va_D (aC h0 sz) (([(h0, .inr (2, [.ref q7, .null, .null, .null, .null])), (q7, .inl (c3.1, 10, .inl (fun _ => 0)))] : va_W)) := hD
  refine lv_aload_n hx hb d_O_init_12 rfl (lv_at hl 0 rfl) ?_
  refine lv_bipush (v := 10) hx hb d_O_init_13 rfl ?_
  refine xn_newa hx hb hT hK hP hD hS hA (N := 10) (by decide) (by decide) (by decide) (by decide) (by decide) d_O_init_15 (fun q15 H hP hD hS => ?_)
  have hP : va_P G kl (([(h0, .inr (2, [.ref q7, .null, .null, .null, .null])), (q7, .inl (c3.1, 10, .inl (fun _ => 0))), (q15, .inl (c3.1, 10, .inl (fun _ => 0)))] : va_W)) H := hP
  have hD : va_D (aC h0 sz) (([(h0, .inr (2, [.ref q7, .null, .null, .null, .null])), (q7, .inl (c3.1, 10, .inl (fun _ => 0))), (q15, .inl (c3.1, 10, .inl (fun _ => 0)))] : va_W)) := hD
  refine va_putF (D := G) (ci := 2) (v := .ref q15) (ty := (.array .int)) (C := RO) (T := TO) (N := 5) hx hb (hT.hts args) inO tyO tkO nmO hown hK hP hD hS 0 rfl rfl 1 (by decide) (hT.1 _ wf_O_15 _) (fun _ h9 => h9) rfl hin rfl (by decide +kernel) rfl rfl (Nat.le_of_ble_eq_true rfl) d_O_init_17 (fun H locs hP hD hS => ?_)
  have hP : va_P G kl (([(h0, .inr (2, [.ref q7, .ref q15, .null, .null, .null])), (q7, .inl (c3.1, 10, .inl (fun _ => 0))), (q15, .inl (c3.1, 10, .inl (fun _ => 0)))] : va_W)) H := hP
  have hD : va_D (aC h0 sz) (([(h0, .inr (2, [.ref q7, .ref q15, .null, .null, .null])), (q7, .inl (c3.1, 10, .inl (fun _ => 0))), (q15, .inl (c3.1, 10, .inl (fun _ => 0)))] : va_W)) := hD
  refine lv_aload_n hx hb d_O_init_20 rfl (lv_at hl 0 rfl) ?_
  refine lv_bipush (v := 6) hx hb d_O_init_21 rfl ?_
  refine lv_iconst (v := 4) hx hb d_O_init_23 rfl ?_
  refine xn_mna hx hb hown (hT.1 _ wq_O_18 _) hao hP hD hS hA (N := 6) (K := 4) (by decide) (by decide) (by decide) (by decide) (by decide) (by decide) (by decide) (by decide) d_O_init_24 (fun q24 fO24 H hO24 hP hD hS => ?_)
  have hP : va_P G kl (([(h0, .inr (2, [.ref q7, .ref q15, .null, .null, .null])), (q7, .inl (c3.1, 10, .inl (fun _ => 0))), (q15, .inl (c3.1, 10, .inl (fun _ => 0))), (q24, .inl (c3.2.2, 6, .inr (.inr (.inr (.inr fO24))))), (q24 + 1 + 0, .inl (c3.1, 4, .inl (fun _ => 0))), (q24 + 1 + 1, .inl (c3.1, 4, .inl (fun _ => 0))), (q24 + 1 + 2, .inl (c3.1, 4, .inl (fun _ => 0))), (q24 + 1 + 3, .inl (c3.1, 4, .inl (fun _ => 0))), (q24 + 1 + 4, .inl (c3.1, 4, .inl (fun _ => 0))), (q24 + 1 + 5, .inl (c3.1, 4, .inl (fun _ => 0)))] : va_W)) H := hP
  have hD : va_D (aC h0 sz) (([(h0, .inr (2, [.ref q7, .ref q15, .null, .null, .null])), (q7, .inl (c3.1, 10, .inl (fun _ => 0))), (q15, .inl (c3.1, 10, .inl (fun _ => 0))), (q24, .inl (c3.2.2, 6, .inr (.inr (.inr (.inr fO24))))), (q24 + 1 + 0, .inl (c3.1, 4, .inl (fun _ => 0))), (q24 + 1 + 1, .inl (c3.1, 4, .inl (fun _ => 0))), (q24 + 1 + 2, .inl (c3.1, 4, .inl (fun _ => 0))), (q24 + 1 + 3, .inl (c3.1, 4, .inl (fun _ => 0))), (q24 + 1 + 4, .inl (c3.1, 4, .inl (fun _ => 0))), (q24 + 1 + 5, .inl (c3.1, 4, .inl (fun _ => 0)))] : va_W)) := hD
  refine va_putF (D := G) (ci := 2) (v := .ref q24) (ty := (.array (.array .int))) (C := RO) (T := TO) (N := 5) hx hb (hT.hts args) inO tyO tkO nmO hown hK hP hD hS 0 rfl rfl 2 (by decide) (hT.1 _ wf_O_20 _) (fun _ h9 => h9) rfl hin rfl (by decide +kernel) rfl rfl (Nat.le_of_ble_eq_true rfl) d_O_init_28 (fun H locs hP hD hS => ?_)
  have hP : va_P G kl (([(h0, .inr (2, [.ref q7, .ref q15, .ref q24, .null, .null])), (q7, .inl (c3.1, 10, .inl (fun _ => 0))), (q15, .inl (c3.1, 10, .inl (fun _ => 0))), (q24, .inl (c3.2.2, 6, .inr (.inr (.inr (.inr fO24))))), (q24 + 1 + 0, .inl (c3.1, 4, .inl (fun _ => 0))), (q24 + 1 + 1, .inl (c3.1, 4, .inl (fun _ => 0))), (q24 + 1 + 2, .inl (c3.1, 4, .inl (fun _ => 0))), (q24 + 1 + 3, .inl (c3.1, 4, .inl (fun _ => 0))), (q24 + 1 + 4, .inl (c3.1, 4, .inl (fun _ => 0))), (q24 + 1 + 5, .inl (c3.1, 4, .inl (fun _ => 0)))] : va_W)) H := hP
  have hD : va_D (aC h0 sz) (([(h0, .inr (2, [.ref q7, .ref q15, .ref q24, .null, .null])), (q7, .inl (c3.1, 10, .inl (fun _ => 0))), (q15, .inl (c3.1, 10, .inl (fun _ => 0))), (q24, .inl (c3.2.2, 6, .inr (.inr (.inr (.inr fO24))))), (q24 + 1 + 0, .inl (c3.1, 4, .inl (fun _ => 0))), (q24 + 1 + 1, .inl (c3.1, 4, .inl (fun _ => 0))), (q24 + 1 + 2, .inl (c3.1, 4, .inl (fun _ => 0))), (q24 + 1 + 3, .inl (c3.1, 4, .inl (fun _ => 0))), (q24 + 1 + 4, .inl (c3.1, 4, .inl (fun _ => 0))), (q24 + 1 + 5, .inl (c3.1, 4, .inl (fun _ => 0)))] : va_W)) := hD
  refine lv_aload_n hx hb d_O_init_31 rfl (lv_at hl 0 rfl) ?_
  refine lv_iconst (v := 4) hx hb d_O_init_32 rfl ?_
  refine xn_newa hx hb hT hK hP hD hS hA (N := 4) (by decide) (by decide) (by decide) (by decide) (by decide) d_O_init_33 (fun q33 H hP hD hS => ?_)
  have hP : va_P G kl (([(h0, .inr (2, [.ref q7, .ref q15, .ref q24, .null, .null])), (q7, .inl (c3.1, 10, .inl (fun _ => 0))), (q15, .inl (c3.1, 10, .inl (fun _ => 0))), (q24, .inl (c3.2.2, 6, .inr (.inr (.inr (.inr fO24))))), (q24 + 1 + 0, .inl (c3.1, 4, .inl (fun _ => 0))), (q24 + 1 + 1, .inl (c3.1, 4, .inl (fun _ => 0))), (q24 + 1 + 2, .inl (c3.1, 4, .inl (fun _ => 0))), (q24 + 1 + 3, .inl (c3.1, 4, .inl (fun _ => 0))), (q24 + 1 + 4, .inl (c3.1, 4, .inl (fun _ => 0))), (q24 + 1 + 5, .inl (c3.1, 4, .inl (fun _ => 0))), (q33, .inl (c3.1, 4, .inl (fun _ => 0)))] : va_W)) H := hP
  have hD : va_D (aC h0 sz) (([(h0, .inr (2, [.ref q7, .ref q15, .ref q24, .null, .null])), (q7, .inl (c3.1, 10, .inl (fun _ => 0))), (q15, .inl (c3.1, 10, .inl (fun _ => 0))), (q24, .inl (c3.2.2, 6, .inr (.inr (.inr (.inr fO24))))), (q24 + 1 + 0, .inl (c3.1, 4, .inl (fun _ => 0))), (q24 + 1 + 1, .inl (c3.1, 4, .inl (fun _ => 0))), (q24 + 1 + 2, .inl (c3.1, 4, .inl (fun _ => 0))), (q24 + 1 + 3, .inl (c3.1, 4, .inl (fun _ => 0))), (q24 + 1 + 4, .inl (c3.1, 4, .inl (fun _ => 0))), (q24 + 1 + 5, .inl (c3.1, 4, .inl (fun _ => 0))), (q33, .inl (c3.1, 4, .inl (fun _ => 0)))] : va_W)) := hD
  refine va_putF (D := G) (ci := 2) (v := .ref q33) (ty := (.array .int)) (C := RO) (T := TO) (N := 5) hx hb (hT.hts args) inO tyO tkO nmO hown hK hP hD hS 0 rfl rfl 3 (by decide) (hT.1 _ wf_O_23 _) (fun _ h9 => h9) rfl hin rfl (by decide +kernel) rfl rfl (Nat.le_of_ble_eq_true rfl) d_O_init_35 (fun H locs hP hD hS => ?_)
  have hP : va_P G kl (([(h0, .inr (2, [.ref q7, .ref q15, .ref q24, .ref q33, .null])), (q7, .inl (c3.1, 10, .inl (fun _ => 0))), (q15, .inl (c3.1, 10, .inl (fun _ => 0))), (q24, .inl (c3.2.2, 6, .inr (.inr (.inr (.inr fO24))))), (q24 + 1 + 0, .inl (c3.1, 4, .inl (fun _ => 0))), (q24 + 1 + 1, .inl (c3.1, 4, .inl (fun _ => 0))), (q24 + 1 + 2, .inl (c3.1, 4, .inl (fun _ => 0))), (q24 + 1 + 3, .inl (c3.1, 4, .inl (fun _ => 0))), (q24 + 1 + 4, .inl (c3.1, 4, .inl (fun _ => 0))), (q24 + 1 + 5, .inl (c3.1, 4, .inl (fun _ => 0))), (q33, .inl (c3.1, 4, .inl (fun _ => 0)))] : va_W)) H := hP
  have hD : va_D (aC h0 sz) (([(h0, .inr (2, [.ref q7, .ref q15, .ref q24, .ref q33, .null])), (q7, .inl (c3.1, 10, .inl (fun _ => 0))), (q15, .inl (c3.1, 10, .inl (fun _ => 0))), (q24, .inl (c3.2.2, 6, .inr (.inr (.inr (.inr fO24))))), (q24 + 1 + 0, .inl (c3.1, 4, .inl (fun _ => 0))), (q24 + 1 + 1, .inl (c3.1, 4, .inl (fun _ => 0))), (q24 + 1 + 2, .inl (c3.1, 4, .inl (fun _ => 0))), (q24 + 1 + 3, .inl (c3.1, 4, .inl (fun _ => 0))), (q24 + 1 + 4, .inl (c3.1, 4, .inl (fun _ => 0))), (q24 + 1 + 5, .inl (c3.1, 4, .inl (fun _ => 0))), (q33, .inl (c3.1, 4, .inl (fun _ => 0)))] : va_W)) := hD
  refine lv_aload_n hx hb d_O_init_38 rfl (lv_at hl 0 rfl) ?_
  refine lv_iconst (v := 4) hx hb d_O_init_39 rfl ?_
  refine xn_newa hx hb hT hK hP hD hS hA (N := 4) (by decide) (by decide) (by decide) (by decide) (by decide) d_O_init_40 (fun q40 H hP hD hS => ?_)
  have hP : va_P G kl (([(h0, .inr (2, [.ref q7, .ref q15, .ref q24, .ref q33, .null])), (q7, .inl (c3.1, 10, .inl (fun _ => 0))), (q15, .inl (c3.1, 10, .inl (fun _ => 0))), (q24, .inl (c3.2.2, 6, .inr (.inr (.inr (.inr fO24))))), (q24 + 1 + 0, .inl (c3.1, 4, .inl (fun _ => 0))), (q24 + 1 + 1, .inl (c3.1, 4, .inl (fun _ => 0))), (q24 + 1 + 2, .inl (c3.1, 4, .inl (fun _ => 0))), (q24 + 1 + 3, .inl (c3.1, 4, .inl (fun _ => 0))), (q24 + 1 + 4, .inl (c3.1, 4, .inl (fun _ => 0))), (q24 + 1 + 5, .inl (c3.1, 4, .inl (fun _ => 0))), (q33, .inl (c3.1, 4, .inl (fun _ => 0))), (q40, .inl (c3.1, 4, .inl (fun _ => 0)))] : va_W)) H := hP
  have hD : va_D (aC h0 sz) (([(h0, .inr (2, [.ref q7, .ref q15, .ref q24, .ref q33, .null])), (q7, .inl (c3.1, 10, .inl (fun _ => 0))), (q15, .inl (c3.1, 10, .inl (fun _ => 0))), (q24, .inl (c3.2.2, 6, .inr (.inr (.inr (.inr fO24))))), (q24 + 1 + 0, .inl (c3.1, 4, .inl (fun _ => 0))), (q24 + 1 + 1, .inl (c3.1, 4, .inl (fun _ => 0))), (q24 + 1 + 2, .inl (c3.1, 4, .inl (fun _ => 0))), (q24 + 1 + 3, .inl (c3.1, 4, .inl (fun _ => 0))), (q24 + 1 + 4, .inl (c3.1, 4, .inl (fun _ => 0))), (q24 + 1 + 5, .inl (c3.1, 4, .inl (fun _ => 0))), (q33, .inl (c3.1, 4, .inl (fun _ => 0))), (q40, .inl (c3.1, 4, .inl (fun _ => 0)))] : va_W)) := hD
  refine va_putF (D := G) (ci := 2) (v := .ref q40) (ty := (.array .int)) (C := RO) (T := TO) (N := 5) hx hb (hT.hts args) inO tyO tkO nmO hown hK hP hD hS 0 rfl rfl 4 (by decide) (hT.1 _ wf_O_26 _) (fun _ h9 => h9) rfl hin rfl (by decide +kernel) rfl rfl (Nat.le_of_ble_eq_true rfl) d_O_init_42 (fun H locs hP hD hS => ?_)
  have hP : va_P G kl (([(h0, .inr (2, [.ref q7, .ref q15, .ref q24, .ref q33, .ref q40])), (q7, .inl (c3.1, 10, .inl (fun _ => 0))), (q15, .inl (c3.1, 10, .inl (fun _ => 0))), (q24, .inl (c3.2.2, 6, .inr (.inr (.inr (.inr fO24))))), (q24 + 1 + 0, .inl (c3.1, 4, .inl (fun _ => 0))), (q24 + 1 + 1, .inl (c3.1, 4, .inl (fun _ => 0))), (q24 + 1 + 2, .inl (c3.1, 4, .inl (fun _ => 0))), (q24 + 1 + 3, .inl (c3.1, 4, .inl (fun _ => 0))), (q24 + 1 + 4, .inl (c3.1, 4, .inl (fun _ => 0))), (q24 + 1 + 5, .inl (c3.1, 4, .inl (fun _ => 0))), (q33, .inl (c3.1, 4, .inl (fun _ => 0))), (q40, .inl (c3.1, 4, .inl (fun _ => 0)))] : va_W)) H := hP
  have hD : va_D (aC h0 sz) (([(h0, .inr (2, [.ref q7, .ref q15, .ref q24, .ref q33, .ref q40])), (q7, .inl (c3.1, 10, .inl (fun _ => 0))), (q15, .inl (c3.1, 10, .inl (fun _ => 0))), (q24, .inl (c3.2.2, 6, .inr (.inr (.inr (.inr fO24))))), (q24 + 1 + 0, .inl (c3.1, 4, .inl (fun _ => 0))), (q24 + 1 + 1, .inl (c3.1, 4, .inl (fun _ => 0))), (q24 + 1 + 2, .inl (c3.1, 4, .inl (fun _ => 0))), (q24 + 1 + 3, .inl (c3.1, 4, .inl (fun _ => 0))), (q24 + 1 + 4, .inl (c3.1, 4, .inl (fun _ => 0))), (q24 + 1 + 5, .inl (c3.1, 4, .inl (fun _ => 0))), (q33, .inl (c3.1, 4, .inl (fun _ => 0))), (q40, .inl (c3.1, 4, .inl (fun _ => 0)))] : va_W)) := hD
  have efO24 : fO24 = fun i => if i < 6 then some ((fun k => ([h0, q7, q15, q24, q24 + 1 + 0, q24 + 1 + 1, q24 + 1 + 2, q24 + 1 + 3, q24 + 1 + 4, q24 + 1 + 5, q33, q40] : List Nat).getD k 0) (3 + 1 + i)) else none := by
    funext i
    rw [hO24 i]
    by_cases hi : i < 6
    · rw [if_pos hi, if_pos hi]
      match i, hi with
      | 0, _ => rfl
      | 1, _ => rfl
      | 2, _ => rfl
      | 3, _ => rfl
      | 4, _ => rfl
      | 5, _ => rfl
      | n + 6, h => exact absurd h (by omega)
    · rw [if_neg hi, if_neg hi]
  rw [efO24] at hP hD
  have hge : ∀ k, 0 < k → k < 12 → sz ≤ (fun k => ([h0, q7, q15, q24, q24 + 1 + 0, q24 + 1 + 1, q24 + 1 + 2, q24 + 1 + 3, q24 + 1 + 4, q24 + 1 + 5, q33, q40] : List Nat).getD k 0) k := by
    intro k h1 h2
    have hAk : aC h0 sz ((fun k => ([h0, q7, q15, q24, q24 + 1 + 0, q24 + 1 + 1, q24 + 1 + 2, q24 + 1 + 3, q24 + 1 + 4, q24 + 1 + 5, q33, q40] : List Nat).getD k 0) k) := ((show va_D (aC h0 sz) (wd SO c3 (fun k => ([h0, q7, q15, q24, q24 + 1 + 0, q24 + 1 + 1, q24 + 1 + 2, q24 + 1 + 3, q24 + 1 + 4, q24 + 1 + 5, q33, q40] : List Nat).getD k 0) ((fun _ _ => 0) : Mem)) from hD).2 k _ (wd_at (List.getElem?_eq_getElem (show k < SO.length from h2))))
    rcases hAk with h | h
    · have := adI_of (show va_D (aC h0 sz) (wd SO c3 (fun k => ([h0, q7, q15, q24, q24 + 1 + 0, q24 + 1 + 1, q24 + 1 + 2, q24 + 1 + 3, q24 + 1 + 4, q24 + 1 + 5, q33, q40] : List Nat).getD k 0) ((fun _ _ => 0) : Mem)) from hD) k 0 h2 (by decide) h
      omega
    · exact h
  exact P2 (fun k => ([h0, q7, q15, q24, q24 + 1 + 0, q24 + 1 + 1, q24 + 1 + 2, q24 + 1 + 3, q24 + 1 + 4, q24 + 1 + 5, q33, q40] : List Nat).getD k 0) H _ _ rfl hge hP hD hS hl
noncomputable def fE_init (M : Mem) : Option (Mem) := some M
set_option maxHeartbeats 4000000 in
set_option maxRecDepth 100000 in
theorem zE_init (l : Launch) (G : va_G) (c3 : ClassId × ClassId × ClassId) (sz h0 : Nat) (mP : Mem) (hP0 : fP_init ((fun _ _ => 0) : Mem) = some mP) (mT : Mem) (hTt : fT_init ((fun k => if k < 11 then (fun _ => 0) else mP (k - 11)) : Mem) = some mT) (mR : Mem) (hRr : fR_init ((fun _ _ => 0) : Mem) = some mR) (mO : Mem) (hOo : fO_init ((fun _ _ => 0) : Mem) = some mO) (out : Mem) (hf : fE_init ((fun k => if k < 1 then (fun _ => 0) else if k < 18 then mT (k - 1) else if k < 44 then mR (k - 18) else mO (k - 44)) : Mem) = some out) : CMet l yE_init cE_init 1 ({ frames := 3, cells := 55, slots := 4428, locals := 83 } : Room) G c3 SX sz h0 4 [.null, .null, .null] out 55 4428 := by
  refine CMet.of (by decide +kernel) rfl (by decide) (fun p e s m args below meth c ls F hT hK hao hsz hP hD hS hA hr hlk hin hl => ?_)
  have hx := F.1
  have hb := F.2.1
  have hml := F.2.2.1
  have F : CallFix p m c cE_init 1 s args gw RE := F
  have hown := F.2.2.2.1
  have P2 : ∀ (ad : Nat → Nat) (H : Heap) (locs : List Loc) (ls : Array Slot), ad 0 = h0 → (∀ k, 0 < k → k < 56 → sz ≤ ad k) → va_P G kl (wd SX c3 ad ((fun k => if k < 1 then (fun _ => 0) else if k < 18 then mT (k - 1) else if k < 44 then mR (k - 18) else mO (k - 44)) : Mem)) H → va_D (aC h0 sz) (wd SX c3 ad ((fun k => if k < 1 then (fun _ => 0) else if k < 18 then mT (k - 1) else if k < 44 then mR (k - 18) else mO (k - 44)) : Mem)) → va_S (aC h0 sz) s.heap H locs → lv_has ls 1 [(0, .ref h0)] → W p l e ({ frames := 3, cells := 55, slots := 4428, locals := 83 } : Room) s m args below meth c H locs 55 4428 (MQ below (QC G c3 SX h0 sz out) args s 55 4428 (aC h0 sz)) (F0 m 37 ls []) := by
    clear hP hD hS hl
    intro ad H locs ls had hge hP hD hS hl
    have hd := adI_of hD
    have hAd := adA_of hD
    subst had
    generalize hM0 : ((fun k => if k < 1 then (fun _ => 0) else if k < 18 then mT (k - 1) else if k < 44 then mR (k - 18) else mO (k - 44)) : Mem) = M at hP hf
    clear hM0 hD
    unfold fE_init at hf
    exact xw_cret hx hb hr hlk hS rfl hge hd hAd hP (Option.some.inj hf) d_E_init_37
  refine lv_aload_n hx hb d_E_init_0 rfl (lv_at hl 0 rfl) ?_
  refine W.objInit hx hb hown (hT.1 _ wl_E_3 _) (hT.1 _ wi_JO_init _) (hT.1 _ wc_JO_init _) rfl (hl.1.trans hml.symm) rfl d_E_init_1 (Nat.le_of_ble_eq_true rfl) (Nat.le_of_ble_eq_true rfl) ?_
  refine W.eq (g2 := F0 m 4 ls []) rfl ?_
  refine lv_aload_n hx hb d_E_init_4 rfl (lv_at hl 0 rfl) ?_
  refine va_new (ci := 3) (fs := [.null, .null, .null, .null, .null, .null, .null, .int 0, .int 0, .null]) (C := RT) (T := TT) (N := 10) hx hb (hT.hts args) inT tyT tkT hown (hT.1 _ wq_E_9 _) (hT.1 _ wb_T _) (hT.1 _ wn_T _) hK hP hD hS hA rfl (fun j hj => by
    match j, hj with
    | 0, _ => rfl
    | 1, _ => rfl
    | 2, _ => rfl
    | 3, _ => rfl
    | 4, _ => rfl
    | 5, _ => rfl
    | 6, _ => rfl
    | 7, _ => rfl
    | 8, _ => rfl
    | 9, _ => rfl
    | n + 10, h => exact absurd h (by omega)) (by decide) (by decide) d_E_init_5 (fun q5 H hP hD hS => ?_)
  have hP : va_P G kl ((([(h0, .inr (4, [.null, .null, .null]))] : va_W)) ++ [(q5, .inr (3, [.null, .null, .null, .null, .null, .null, .null, .int 0, .int 0, .null]))]) H := hP
  have hD : va_D (aC h0 sz) ((([(h0, .inr (4, [.null, .null, .null]))] : va_W)) ++ [(q5, .inr (3, [.null, .null, .null, .null, .null, .null, .null, .int 0, .int 0, .null]))]) := hD
  refine lv_dup hx hb d_E_init_8 rfl ?_
  have hPc : va_P G kl [(q5, .inr (3, [.null, .null, .null, .null, .null, .null, .null, .int 0, .int 0, .null]))] H := fun k x hk => hP ((([(h0, .inr (4, [.null, .null, .null]))] : va_W)).length + k) x (by rw [List.getElem?_append_right (Nat.le_add_right _ _), Nat.add_sub_cancel_left]; exact hk)
  have hqA : aC h0 sz q5 := hD.2 (([(h0, .inr (4, [.null, .null, .null]))] : va_W)).length (q5, .inr (3, [.null, .null, .null, .null, .null, .null, .null, .int 0, .int 0, .null])) (by rw [List.getElem?_append_right (Nat.le_refl _), Nat.sub_self]; rfl)
  have hle0 := hS.1
  refine xc_c (va_runI (n := 0) (As := []) (b := q5) (rest := [.ref q5, .ref h0]) F (zT_init l G c3 H.size q5 mP hP0 mT hTt) ⟨callB_of 0 (hT.hts args) (gw_one wc_T_init) rfl rfl rfl (hT.1 _ wn_T _) (hT.1 _ wl_E_11 _) ck_T_init ⟨by decide, by decide⟩, rfl, hT.1 _ wi_T_init _⟩ ⟨okC.blind, fun U hU hW => ⟨rfl, hT.warm hW, va_K.moved hW.alike hK, hao.moved hW.alike, by rw [hU], by rw [hU]; exact hPc⟩⟩ rfl rfl hl.1 rfl (lv_room (Nat.le_of_ble_eq_true rfl)) d_E_init_9 ⟨by decide, by decide⟩) hS (fun z h => by rcases h with rfl | h; exact hqA; exact hA z (Nat.le_trans hle0 h)) (fun adT H locs hadT hgeT hPn hI hS hkp hle => ?_)
  obtain ⟨hP, hD⟩ := cj_join (ws := ([(h0, .inr (4, [.null, .null, .null]))] : va_W)) hP hD hadT hgeT hPn hI hkp (fun z h => hA z (Nat.le_trans hle0 h))
  rw [← hadT]
  refine va_putF (D := G) (ci := 4) (v := .ref (adT 0)) (ty := (.object "ExamDesk$Timetable")) (C := RE) (T := TE) (N := 3) hx hb (hT.hts args) inE tyE tkE nmE hown hK hP hD hS 0 rfl rfl 0 (by decide) (hT.1 _ wf_E_12 _) (fun _ h9 => h9) rfl hin rfl (by decide +kernel) rfl rfl (Nat.le_of_ble_eq_true rfl) d_E_init_12 (fun H locs hP hD hS => ?_)
  have hP : va_P G kl (([(h0, .inr (4, [.ref ((adT 0)), .null, .null]))] : va_W) ++ wd ST c3 adT mT) H := hP
  have hD : va_D (aC h0 sz) (([(h0, .inr (4, [.ref ((adT 0)), .null, .null]))] : va_W) ++ wd ST c3 adT mT) := hD
  refine lv_aload_n hx hb d_E_init_15 rfl (lv_at hl 0 rfl) ?_
  refine va_new (ci := 1) (fs := [.null, .null, .null, .null, .null, .null, .null]) (C := RR) (T := TR) (N := 7) hx hb (hT.hts args) inR tyR tkR hown (hT.1 _ wq_E_16 _) (hT.1 _ wb_R _) (hT.1 _ wn_R _) hK hP hD hS hA rfl (fun j hj => by
    match j, hj with
    | 0, _ => rfl
    | 1, _ => rfl
    | 2, _ => rfl
    | 3, _ => rfl
    | 4, _ => rfl
    | 5, _ => rfl
    | 6, _ => rfl
    | n + 7, h => exact absurd h (by omega)) (by decide) (by decide) d_E_init_16 (fun q16 H hP hD hS => ?_)
  have hP : va_P G kl ((([(h0, .inr (4, [.ref ((adT 0)), .null, .null]))] : va_W) ++ wd ST c3 adT mT) ++ [(q16, .inr (1, [.null, .null, .null, .null, .null, .null, .null]))]) H := hP
  have hD : va_D (aC h0 sz) ((([(h0, .inr (4, [.ref ((adT 0)), .null, .null]))] : va_W) ++ wd ST c3 adT mT) ++ [(q16, .inr (1, [.null, .null, .null, .null, .null, .null, .null]))]) := hD
  refine lv_dup hx hb d_E_init_19 rfl ?_
  have hPc : va_P G kl [(q16, .inr (1, [.null, .null, .null, .null, .null, .null, .null]))] H := fun k x hk => hP ((([(h0, .inr (4, [.ref ((adT 0)), .null, .null]))] : va_W) ++ wd ST c3 adT mT).length + k) x (by rw [List.getElem?_append_right (Nat.le_add_right _ _), Nat.add_sub_cancel_left]; exact hk)
  have hqA : aC h0 sz q16 := hD.2 (([(h0, .inr (4, [.ref ((adT 0)), .null, .null]))] : va_W) ++ wd ST c3 adT mT).length (q16, .inr (1, [.null, .null, .null, .null, .null, .null, .null])) (by rw [List.getElem?_append_right (Nat.le_refl _), Nat.sub_self]; rfl)
  have hle0 := hS.1
  refine xc_c (va_runI (n := 0) (As := []) (b := q16) (rest := [.ref q16, .ref h0]) F (zR_init l G c3 H.size q16 mR hRr) ⟨callB_of 0 (hT.hts args) (gw_one wc_R_init) rfl rfl rfl (hT.1 _ wn_R _) (hT.1 _ wl_E_18 _) ck_R_init ⟨by decide, by decide⟩, rfl, hT.1 _ wi_R_init _⟩ ⟨okC.blind, fun U hU hW => ⟨rfl, hT.warm hW, va_K.moved hW.alike hK, hao.moved hW.alike, by rw [hU], by rw [hU]; exact hPc⟩⟩ rfl rfl hl.1 rfl (lv_room (Nat.le_of_ble_eq_true rfl)) d_E_init_20 ⟨by decide, by decide⟩) hS (fun z h => by rcases h with rfl | h; exact hqA; exact hA z (Nat.le_trans hle0 h)) (fun adR H locs hadR hgeR hPn hI hS hkp hle => ?_)
  obtain ⟨hP, hD⟩ := cj_join (ws := ([(h0, .inr (4, [.ref ((adT 0)), .null, .null]))] : va_W) ++ wd ST c3 adT mT) hP hD hadR hgeR hPn hI hkp (fun z h => hA z (Nat.le_trans hle0 h))
  rw [← hadR]
  refine va_putF (D := G) (ci := 4) (v := .ref (adR 0)) (ty := (.object "ExamDesk$Rooms")) (C := RE) (T := TE) (N := 3) hx hb (hT.hts args) inE tyE tkE nmE hown hK hP hD hS 0 rfl rfl 1 (by decide) (hT.1 _ wf_E_19 _) (fun _ h9 => h9) rfl hin rfl (by decide +kernel) rfl rfl (Nat.le_of_ble_eq_true rfl) d_E_init_23 (fun H locs hP hD hS => ?_)
  have hP : va_P G kl (([(h0, .inr (4, [.ref ((adT 0)), .ref ((adR 0)), .null]))] : va_W) ++ wd ST c3 adT mT ++ wd SR c3 adR mR) H := hP
  have hD : va_D (aC h0 sz) (([(h0, .inr (4, [.ref ((adT 0)), .ref ((adR 0)), .null]))] : va_W) ++ wd ST c3 adT mT ++ wd SR c3 adR mR) := hD
  refine lv_aload_n hx hb d_E_init_26 rfl (lv_at hl 0 rfl) ?_
  refine va_new (ci := 2) (fs := [.null, .null, .null, .null, .null]) (C := RO) (T := TO) (N := 5) hx hb (hT.hts args) inO tyO tkO hown (hT.1 _ wq_E_23 _) (hT.1 _ wb_O _) (hT.1 _ wn_O _) hK hP hD hS hA rfl (fun j hj => by
    match j, hj with
    | 0, _ => rfl
    | 1, _ => rfl
    | 2, _ => rfl
    | 3, _ => rfl
    | 4, _ => rfl
    | n + 5, h => exact absurd h (by omega)) (by decide) (by decide) d_E_init_27 (fun q27 H hP hD hS => ?_)
  have hP : va_P G kl ((([(h0, .inr (4, [.ref ((adT 0)), .ref ((adR 0)), .null]))] : va_W) ++ wd ST c3 adT mT ++ wd SR c3 adR mR) ++ [(q27, .inr (2, [.null, .null, .null, .null, .null]))]) H := hP
  have hD : va_D (aC h0 sz) ((([(h0, .inr (4, [.ref ((adT 0)), .ref ((adR 0)), .null]))] : va_W) ++ wd ST c3 adT mT ++ wd SR c3 adR mR) ++ [(q27, .inr (2, [.null, .null, .null, .null, .null]))]) := hD
  refine lv_dup hx hb d_E_init_30 rfl ?_
  have hPc : va_P G kl [(q27, .inr (2, [.null, .null, .null, .null, .null]))] H := fun k x hk => hP ((([(h0, .inr (4, [.ref ((adT 0)), .ref ((adR 0)), .null]))] : va_W) ++ wd ST c3 adT mT ++ wd SR c3 adR mR).length + k) x (by rw [List.getElem?_append_right (Nat.le_add_right _ _), Nat.add_sub_cancel_left]; exact hk)
  have hqA : aC h0 sz q27 := hD.2 (([(h0, .inr (4, [.ref ((adT 0)), .ref ((adR 0)), .null]))] : va_W) ++ wd ST c3 adT mT ++ wd SR c3 adR mR).length (q27, .inr (2, [.null, .null, .null, .null, .null])) (by rw [List.getElem?_append_right (Nat.le_refl _), Nat.sub_self]; rfl)
  have hle0 := hS.1
  refine xc_c (va_runIN (n := 0) (As := []) (b := q27) (rest := [.ref q27, .ref h0]) F (zO_init l G c3 H.size q27 mO hOo) ⟨va_cnB (host := "ExamDesk") 0 (hT.hts args) (gw_one wc_O_init) rfl rfl rfl (hT.2.1 _ wm_E_25) (hT.1 _ wn_O _) ck_O_init ⟨by decide, by decide⟩, rfl, hT.1 _ wi_O_init _⟩ ⟨okC.blind, fun U hU hW => ⟨rfl, hT.warm hW, va_K.moved hW.alike hK, hao.moved hW.alike, by rw [hU], by rw [hU]; exact hPc⟩⟩ rfl rfl hl.1 rfl (lv_room (Nat.le_of_ble_eq_true rfl)) d_E_init_31 ⟨by decide, by decide⟩) hS (fun z h => by rcases h with rfl | h; exact hqA; exact hA z (Nat.le_trans hle0 h)) (fun adO H locs hadO hgeO hPn hI hS hkp hle => ?_)
  obtain ⟨hP, hD⟩ := cj_join (ws := ([(h0, .inr (4, [.ref ((adT 0)), .ref ((adR 0)), .null]))] : va_W) ++ wd ST c3 adT mT ++ wd SR c3 adR mR) hP hD hadO hgeO hPn hI hkp (fun z h => hA z (Nat.le_trans hle0 h))
  rw [← hadO]
  refine va_putF (D := G) (ci := 4) (v := .ref (adO 0)) (ty := (.object "ExamDesk$Rota")) (C := RE) (T := TE) (N := 3) hx hb (hT.hts args) inE tyE tkE nmE hown hK hP hD hS 0 rfl rfl 2 (by decide) (hT.1 _ wf_E_26 _) (fun _ h9 => h9) rfl hin rfl (by decide +kernel) rfl rfl (Nat.le_of_ble_eq_true rfl) d_E_init_34 (fun H locs hP hD hS => ?_)
  have hP : va_P G kl (([(h0, .inr (4, [.ref ((adT 0)), .ref ((adR 0)), .ref ((adO 0))]))] : va_W) ++ wd ST c3 adT mT ++ wd SR c3 adR mR ++ wd SO c3 adO mO) H := hP
  have hD : va_D (aC h0 sz) (([(h0, .inr (4, [.ref ((adT 0)), .ref ((adR 0)), .ref ((adO 0))]))] : va_W) ++ wd ST c3 adT mT ++ wd SR c3 adR mR ++ wd SO c3 adO mO) := hD
  have hP : va_P G kl ([(h0, .inr (4, [.ref ((adT 0)), .ref ((adR 0)), .ref ((adO 0))])), (adT 0, .inr (3, [.ref (adT 1), .ref (adT 2), .ref (adT 3), .ref (adT 4), .ref (adT 5), .ref (adT 9), .ref (adT 10), .int (mT 0 7), .int (mT 0 8), .ref (adT 11)])), (adT 1, .inl (c3.1, 9, .inl (mT 1))), (adT 2, .inl (c3.1, 6, .inl (mT 2))), (adT 3, .inl (c3.1, 40, .inl (mT 3))), (adT 4, .inl (c3.2.1, 40, .inl (mT 4))), (adT 5, .inl (c3.2.2, 3, .inr (.inr (.inr (.inr (fun i => if i < 3 then some (adT (5 + 1 + i)) else none)))))), (adT 6, .inl (c3.1, 9, .inl (mT 6))), (adT 7, .inl (c3.1, 9, .inl (mT 7))), (adT 8, .inl (c3.1, 9, .inl (mT 8))), (adT 9, .inl (c3.1, 9, .inl (mT 9))), (adT 10, .inl (c3.1, 9, .inl (mT 10))), (adT 11, .inr (0, [.ref (adT 12), .ref (adT 13), .ref (adT 14), .ref (adT 15), .ref (adT 16), .int (mT 11 5)])), (adT 12, .inl (c3.1, 512, .inl (mT 12))), (adT 13, .inl (c3.1, 512, .inl (mT 13))), (adT 14, .inl (c3.1, 512, .inl (mT 14))), (adT 15, .inl (c3.1, 512, .inl (mT 15))), (adT 16, .inl (c3.1, 9, .inl (mT 16))), (adR 0, .inr (1, [.ref (adR 1), .ref (adR 2), .ref (adR 3), .ref (adR 4), .ref (adR 5), .ref (adR 12), .ref (adR 19)])), (adR 1, .inl (c3.1, 4, .inl (mR 1))), (adR 2, .inl (c3.1, 4, .inl (mR 2))), (adR 3, .inl (c3.2.1, 4, .inl (mR 3))), (adR 4, .inl (c3.2.1, 144, .inl (mR 4))), (adR 5, .inl (c3.2.2, 6, .inr (.inr (.inr (.inr (fun i => if i < 6 then some (adR (5 + 1 + i)) else none)))))), (adR 6, .inl (c3.1, 144, .inl (mR 6))), (adR 7, .inl (c3.1, 144, .inl (mR 7))), (adR 8, .inl (c3.1, 144, .inl (mR 8))), (adR 9, .inl (c3.1, 144, .inl (mR 9))), (adR 10, .inl (c3.1, 144, .inl (mR 10))), (adR 11, .inl (c3.1, 144, .inl (mR 11))), (adR 12, .inl (c3.2.2, 6, .inr (.inr (.inr (.inr (fun i => if i < 6 then some (adR (12 + 1 + i)) else none)))))), (adR 13, .inl (c3.1, 144, .inl (mR 13))), (adR 14, .inl (c3.1, 144, .inl (mR 14))), (adR 15, .inl (c3.1, 144, .inl (mR 15))), (adR 16, .inl (c3.1, 144, .inl (mR 16))), (adR 17, .inl (c3.1, 144, .inl (mR 17))), (adR 18, .inl (c3.1, 144, .inl (mR 18))), (adR 19, .inl (c3.2.2, 6, .inr (.inr (.inr (.inr (fun i => if i < 6 then some (adR (19 + 1 + i)) else none)))))), (adR 20, .inl (c3.1, 40, .inl (mR 20))), (adR 21, .inl (c3.1, 40, .inl (mR 21))), (adR 22, .inl (c3.1, 40, .inl (mR 22))), (adR 23, .inl (c3.1, 40, .inl (mR 23))), (adR 24, .inl (c3.1, 40, .inl (mR 24))), (adR 25, .inl (c3.1, 40, .inl (mR 25))), (adO 0, .inr (2, [.ref (adO 1), .ref (adO 2), .ref (adO 3), .ref (adO 10), .ref (adO 11)])), (adO 1, .inl (c3.1, 10, .inl (mO 1))), (adO 2, .inl (c3.1, 10, .inl (mO 2))), (adO 3, .inl (c3.2.2, 6, .inr (.inr (.inr (.inr (fun i => if i < 6 then some (adO (3 + 1 + i)) else none)))))), (adO 4, .inl (c3.1, 4, .inl (mO 4))), (adO 5, .inl (c3.1, 4, .inl (mO 5))), (adO 6, .inl (c3.1, 4, .inl (mO 6))), (adO 7, .inl (c3.1, 4, .inl (mO 7))), (adO 8, .inl (c3.1, 4, .inl (mO 8))), (adO 9, .inl (c3.1, 4, .inl (mO 9))), (adO 10, .inl (c3.1, 4, .inl (mO 10))), (adO 11, .inl (c3.1, 4, .inl (mO 11)))] : va_W) H := hP
  have hD : va_D (aC h0 sz) ([(h0, .inr (4, [.ref ((adT 0)), .ref ((adR 0)), .ref ((adO 0))])), (adT 0, .inr (3, [.ref (adT 1), .ref (adT 2), .ref (adT 3), .ref (adT 4), .ref (adT 5), .ref (adT 9), .ref (adT 10), .int (mT 0 7), .int (mT 0 8), .ref (adT 11)])), (adT 1, .inl (c3.1, 9, .inl (mT 1))), (adT 2, .inl (c3.1, 6, .inl (mT 2))), (adT 3, .inl (c3.1, 40, .inl (mT 3))), (adT 4, .inl (c3.2.1, 40, .inl (mT 4))), (adT 5, .inl (c3.2.2, 3, .inr (.inr (.inr (.inr (fun i => if i < 3 then some (adT (5 + 1 + i)) else none)))))), (adT 6, .inl (c3.1, 9, .inl (mT 6))), (adT 7, .inl (c3.1, 9, .inl (mT 7))), (adT 8, .inl (c3.1, 9, .inl (mT 8))), (adT 9, .inl (c3.1, 9, .inl (mT 9))), (adT 10, .inl (c3.1, 9, .inl (mT 10))), (adT 11, .inr (0, [.ref (adT 12), .ref (adT 13), .ref (adT 14), .ref (adT 15), .ref (adT 16), .int (mT 11 5)])), (adT 12, .inl (c3.1, 512, .inl (mT 12))), (adT 13, .inl (c3.1, 512, .inl (mT 13))), (adT 14, .inl (c3.1, 512, .inl (mT 14))), (adT 15, .inl (c3.1, 512, .inl (mT 15))), (adT 16, .inl (c3.1, 9, .inl (mT 16))), (adR 0, .inr (1, [.ref (adR 1), .ref (adR 2), .ref (adR 3), .ref (adR 4), .ref (adR 5), .ref (adR 12), .ref (adR 19)])), (adR 1, .inl (c3.1, 4, .inl (mR 1))), (adR 2, .inl (c3.1, 4, .inl (mR 2))), (adR 3, .inl (c3.2.1, 4, .inl (mR 3))), (adR 4, .inl (c3.2.1, 144, .inl (mR 4))), (adR 5, .inl (c3.2.2, 6, .inr (.inr (.inr (.inr (fun i => if i < 6 then some (adR (5 + 1 + i)) else none)))))), (adR 6, .inl (c3.1, 144, .inl (mR 6))), (adR 7, .inl (c3.1, 144, .inl (mR 7))), (adR 8, .inl (c3.1, 144, .inl (mR 8))), (adR 9, .inl (c3.1, 144, .inl (mR 9))), (adR 10, .inl (c3.1, 144, .inl (mR 10))), (adR 11, .inl (c3.1, 144, .inl (mR 11))), (adR 12, .inl (c3.2.2, 6, .inr (.inr (.inr (.inr (fun i => if i < 6 then some (adR (12 + 1 + i)) else none)))))), (adR 13, .inl (c3.1, 144, .inl (mR 13))), (adR 14, .inl (c3.1, 144, .inl (mR 14))), (adR 15, .inl (c3.1, 144, .inl (mR 15))), (adR 16, .inl (c3.1, 144, .inl (mR 16))), (adR 17, .inl (c3.1, 144, .inl (mR 17))), (adR 18, .inl (c3.1, 144, .inl (mR 18))), (adR 19, .inl (c3.2.2, 6, .inr (.inr (.inr (.inr (fun i => if i < 6 then some (adR (19 + 1 + i)) else none)))))), (adR 20, .inl (c3.1, 40, .inl (mR 20))), (adR 21, .inl (c3.1, 40, .inl (mR 21))), (adR 22, .inl (c3.1, 40, .inl (mR 22))), (adR 23, .inl (c3.1, 40, .inl (mR 23))), (adR 24, .inl (c3.1, 40, .inl (mR 24))), (adR 25, .inl (c3.1, 40, .inl (mR 25))), (adO 0, .inr (2, [.ref (adO 1), .ref (adO 2), .ref (adO 3), .ref (adO 10), .ref (adO 11)])), (adO 1, .inl (c3.1, 10, .inl (mO 1))), (adO 2, .inl (c3.1, 10, .inl (mO 2))), (adO 3, .inl (c3.2.2, 6, .inr (.inr (.inr (.inr (fun i => if i < 6 then some (adO (3 + 1 + i)) else none)))))), (adO 4, .inl (c3.1, 4, .inl (mO 4))), (adO 5, .inl (c3.1, 4, .inl (mO 5))), (adO 6, .inl (c3.1, 4, .inl (mO 6))), (adO 7, .inl (c3.1, 4, .inl (mO 7))), (adO 8, .inl (c3.1, 4, .inl (mO 8))), (adO 9, .inl (c3.1, 4, .inl (mO 9))), (adO 10, .inl (c3.1, 4, .inl (mO 10))), (adO 11, .inl (c3.1, 4, .inl (mO 11)))] : va_W) := hD
  rw [show (fun i => if i < 3 then some (adT (5 + 1 + i)) else none) = (fun i => if i < 3 then some ((fun k => if k < 1 then ([h0] : List Nat).getD k 0 else if k < 18 then adT (k - 1) else if k < 44 then adR (k - 18) else adO (k - 44)) (6 + 1 + i)) else none) from by
    funext i
    by_cases hi : i < 3
    · rw [if_pos hi, if_pos hi]
      match i, hi with
      | 0, _ => rfl
      | 1, _ => rfl
      | 2, _ => rfl
      | n + 3, h => exact absurd h (by omega)
    · rw [if_neg hi, if_neg hi]] at hP hD
  rw [show (fun i => if i < 6 then some (adR (5 + 1 + i)) else none) = (fun i => if i < 6 then some ((fun k => if k < 1 then ([h0] : List Nat).getD k 0 else if k < 18 then adT (k - 1) else if k < 44 then adR (k - 18) else adO (k - 44)) (23 + 1 + i)) else none) from by
    funext i
    by_cases hi : i < 6
    · rw [if_pos hi, if_pos hi]
      match i, hi with
      | 0, _ => rfl
      | 1, _ => rfl
      | 2, _ => rfl
      | 3, _ => rfl
      | 4, _ => rfl
      | 5, _ => rfl
      | n + 6, h => exact absurd h (by omega)
    · rw [if_neg hi, if_neg hi]] at hP hD
  rw [show (fun i => if i < 6 then some (adR (12 + 1 + i)) else none) = (fun i => if i < 6 then some ((fun k => if k < 1 then ([h0] : List Nat).getD k 0 else if k < 18 then adT (k - 1) else if k < 44 then adR (k - 18) else adO (k - 44)) (30 + 1 + i)) else none) from by
    funext i
    by_cases hi : i < 6
    · rw [if_pos hi, if_pos hi]
      match i, hi with
      | 0, _ => rfl
      | 1, _ => rfl
      | 2, _ => rfl
      | 3, _ => rfl
      | 4, _ => rfl
      | 5, _ => rfl
      | n + 6, h => exact absurd h (by omega)
    · rw [if_neg hi, if_neg hi]] at hP hD
  rw [show (fun i => if i < 6 then some (adR (19 + 1 + i)) else none) = (fun i => if i < 6 then some ((fun k => if k < 1 then ([h0] : List Nat).getD k 0 else if k < 18 then adT (k - 1) else if k < 44 then adR (k - 18) else adO (k - 44)) (37 + 1 + i)) else none) from by
    funext i
    by_cases hi : i < 6
    · rw [if_pos hi, if_pos hi]
      match i, hi with
      | 0, _ => rfl
      | 1, _ => rfl
      | 2, _ => rfl
      | 3, _ => rfl
      | 4, _ => rfl
      | 5, _ => rfl
      | n + 6, h => exact absurd h (by omega)
    · rw [if_neg hi, if_neg hi]] at hP hD
  rw [show (fun i => if i < 6 then some (adO (3 + 1 + i)) else none) = (fun i => if i < 6 then some ((fun k => if k < 1 then ([h0] : List Nat).getD k 0 else if k < 18 then adT (k - 1) else if k < 44 then adR (k - 18) else adO (k - 44)) (47 + 1 + i)) else none) from by
    funext i
    by_cases hi : i < 6
    · rw [if_pos hi, if_pos hi]
      match i, hi with
      | 0, _ => rfl
      | 1, _ => rfl
      | 2, _ => rfl
      | 3, _ => rfl
      | 4, _ => rfl
      | 5, _ => rfl
      | n + 6, h => exact absurd h (by omega)
    · rw [if_neg hi, if_neg hi]] at hP hD
  have hge : ∀ k, 0 < k → k < 56 → sz ≤ (fun k => if k < 1 then ([h0] : List Nat).getD k 0 else if k < 18 then adT (k - 1) else if k < 44 then adR (k - 18) else adO (k - 44)) k := by
    intro k h1 h2
    have hAk : aC h0 sz ((fun k => if k < 1 then ([h0] : List Nat).getD k 0 else if k < 18 then adT (k - 1) else if k < 44 then adR (k - 18) else adO (k - 44)) k) := ((show va_D (aC h0 sz) (wd SX c3 (fun k => if k < 1 then ([h0] : List Nat).getD k 0 else if k < 18 then adT (k - 1) else if k < 44 then adR (k - 18) else adO (k - 44)) ((fun k => if k < 1 then (fun _ => 0) else if k < 18 then mT (k - 1) else if k < 44 then mR (k - 18) else mO (k - 44)) : Mem)) from hD).2 k _ (wd_at (List.getElem?_eq_getElem (show k < SX.length from h2))))
    rcases hAk with h | h
    · have := adI_of (show va_D (aC h0 sz) (wd SX c3 (fun k => if k < 1 then ([h0] : List Nat).getD k 0 else if k < 18 then adT (k - 1) else if k < 44 then adR (k - 18) else adO (k - 44)) ((fun k => if k < 1 then (fun _ => 0) else if k < 18 then mT (k - 1) else if k < 44 then mR (k - 18) else mO (k - 44)) : Mem)) from hD) k 0 h2 (by decide) h
      omega
    · exact h
  exact P2 (fun k => if k < 1 then ([h0] : List Nat).getD k 0 else if k < 18 then adT (k - 1) else if k < 44 then adR (k - 18) else adO (k - 44)) H _ _ rfl hge hP hD hS hl
noncomputable def fM_init_215 (M : Mem) : Option (Mem) := some M
noncomputable def gM_init_196 (v1 : Int32) (M : Mem) : Option ((Int32 × Mem) ⊕ (Int32 × Mem)) := if 9 ≤ v1 then (some (.inl (v1, M))) else (xgd (vp_in v1 9) (xlt (up2 M 3 v1.toNatClampNeg (-1)) (fun M2 => xlt (v1 + 1) (fun x3 => some (.inr (x3, M2))))))
noncomputable def bM_init_196 : Int32 × Mem → Option ((Int32 × Mem) ⊕ (Int32 × Mem)) := fun st => gM_init_196 st.1 st.2
noncomputable def fM_init (M : Mem) : Option (Mem) := xbd (xlp (bM_init_196) (0, M)) (fun e196 => fM_init_215  e196.2)
set_option maxHeartbeats 4000000 in
set_option maxRecDepth 100000 in
theorem zM_init (l : Launch) (G : va_G) (c3 : ClassId × ClassId × ClassId) (sz h0 : Nat) (out : Mem) (hf : fM_init ((fun _ _ => 0) : Mem) = some out) : CMet l yM_init cM_init 2 ({ frames := 1, cells := 23, slots := 52183, locals := 40 } : Room) G c3 SM sz h0 5 [.int 0, .null, .null, .null, .null, .null, .null, .int 0, .null, .null, .null, .null, .null, .null, .null, .null, .null, .null, .null, .null, .null, .null, .null, .null, .null] out 23 52183 := by
  refine CMet.of (by decide +kernel) rfl (by decide) (fun p e s m args below meth c ls F hT hK hao hsz hP hD hS hA hr hlk hin hl => ?_)
  have hx := F.1
  have hb := F.2.1
  have hml := F.2.2.1
  have F : CallFix p m c cM_init 2 s args gw RM := F
  have hown := F.2.2.2.1
  have P2 : ∀ (ad : Nat → Nat) (H : Heap) (locs : List Loc) (ls : Array Slot), ad 0 = h0 → (∀ k, 0 < k → k < 24 → sz ≤ ad k) → va_P G kl (wd SM c3 ad ((fun _ _ => 0) : Mem)) H → va_D (aC h0 sz) (wd SM c3 ad ((fun _ _ => 0) : Mem)) → va_S (aC h0 sz) s.heap H locs → lv_has ls 2 [(0, .ref h0)] → W p l e ({ frames := 1, cells := 23, slots := 52183, locals := 40 } : Room) s m args below meth c H locs 23 52183 (MQ below (QC G c3 SM h0 sz out) args s 23 52183 (aC h0 sz)) (F0 m 194 ls []) := by
    clear hP hD hS hl
    intro ad H locs ls had hge hP hD hS hl
    have hd := adI_of hD
    have hAd := adA_of hD
    subst had
    generalize hM0 : ((fun _ _ => 0) : Mem) = M at hP hf
    clear hM0 hD
    have K215 : ∀ (M : Mem) (H : Heap) (locs : List Loc) (ls : Array Slot), lv_has ls 2 [] → va_P G kl (wd SM c3 ad M) H → va_S (aC (ad 0) sz) s.heap H locs → fM_init_215  M = some out → W p l e ({ frames := 1, cells := 23, slots := 52183, locals := 40 } : Room) s m args below meth c H locs 23 52183 (MQ below (QC G c3 SM (ad 0) sz out) args s 23 52183 (aC (ad 0) sz)) (F0 m 215 ls []) := by
      intro  M H locs ls  hl hP hS hf
      unfold fM_init_215 at hf
      exact xw_cret hx hb hr hlk hS rfl hge hd hAd hP (Option.some.inj hf) d_M_init_215
    unfold fM_init at hf
    refine lv_iconst (v := 0) hx hb d_M_init_194 rfl ?_
    refine lv_istore_n (lv' := [(1, .int 0), (0, .ref (ad 0))]) hx hb d_M_init_195 rfl hl (by decide) rfl (fun ls hl => ?_)
    obtain ⟨e196, he196, hk196⟩ := xbd_some hf
    obtain ⟨n196, hq196⟩ := xlp_n he196
    have LH196 : ∀ (n : Nat) (v1 : Int32) (M : Mem) (H : Heap) (locs : List Loc) (ls : Array Slot), lv_has ls 2 [(0, .ref (ad 0)), (1, .int v1)] → va_P G kl (wd SM c3 ad M) H → va_S (aC (ad 0) sz) s.heap H locs → xwh (bM_init_196) n (v1, M) = some e196 → W p l e ({ frames := 1, cells := 23, slots := 52183, locals := 40 } : Room) s m args below meth c H locs 23 52183 (MQ below (QC G c3 SM (ad 0) sz out) args s 23 52183 (aC (ad 0) sz)) (F0 m 196 ls []) := by
      intro n
      induction n with
      | zero =>
        intro v1 M H locs ls hl hP hS hn
        exact xwh_0 hn
      | succ n ih196 =>
        intro v1 M H locs ls hl hP hS hn196
        obtain ⟨o196, hf, hn196⟩ := xwh_s hn196
        have hf : gM_init_196 v1 M = some o196 := hf
        unfold gM_init_196 at hf
        refine lv_iload_n hx hb d_M_init_196 rfl (lv_at hl 1 rfl) ?_
        refine lv_bipush (v := 9) hx hb d_M_init_197 rfl ?_
        refine lv_icmp_ge (tgt := 215) hx hb d_M_init_199 rfl (fun hc => ?_) (fun hc => ?_)
        · have hf := ite_t hc hf
          have he := xw_exit hf hn196
          subst he
          have hf := hk196
          exact K215  M _ _ _  (lv_sub hl [] rfl) hP hS hf
        · have hf := ite_f hc hf
          refine lv_aload_n hx hb d_M_init_202 rfl (lv_at hl 0 rfl) ?_
          refine xr_getr hx hb hT hown hK hP sM_0 rfl inM 3 (by decide) wf_M_16 rfl d_M_init_203 ?_
          refine lv_iload_n hx hb d_M_init_206 rfl (lv_at hl 1 rfl) ?_
          refine lv_iconst (v := (-1)) hx hb d_M_init_207 rfl ?_
          obtain ⟨g1, hf⟩ := xgd_some hf
          obtain ⟨M2, hM2, hf⟩ := xlt_some hf
          refine xg_iast hx hb hd hAd hK hP hS sM_3 g1 d_M_init_208 (fun H locs hP hS => ?_)
          rw [hM2] at hP
          obtain ⟨x3, hx3, hf⟩ := xlt_some hf
          refine lv_iinc (k := 1) (lv' := [(1, .int x3), (0, .ref (ad 0))]) hx hb d_M_init_209 hl rfl hx3 (by decide) rfl (fun ls hl => ?_)
          refine lv_goto (tgt := 196) hx hb d_M_init_212 rfl ?_
          exact ih196 x3 M2 _ _ _ (lv_sub hl [1, 0] rfl) hP hS (xw_again hf hn196)
    exact LH196 n196 0 M _ _ _ (lv_sub hl [1, 0] rfl) hP hS hq196
  refine lv_aload_n hx hb d_M_init_0 rfl (lv_at hl 0 rfl) ?_
  refine W.objInit hx hb hown (hT.1 _ wl_M_1 _) (hT.1 _ wi_JO_init _) (hT.1 _ wc_JO_init _) rfl (hl.1.trans hml.symm) rfl d_M_init_1 (Nat.le_of_ble_eq_true rfl) (Nat.le_of_ble_eq_true rfl) ?_
  refine W.eq (g2 := F0 m 4 ls []) rfl ?_
  refine lv_aload_n hx hb d_M_init_4 rfl (lv_at hl 0 rfl) ?_
  refine lv_bipush (v := 9) hx hb d_M_init_5 rfl ?_
  refine xn_newa hx hb hT hK hP hD hS hA (N := 9) (by decide) (by decide) (by decide) (by decide) (by decide) d_M_init_7 (fun q7 H hP hD hS => ?_)
  have hP : va_P G kl (([(h0, .inr (5, [.int 0, .null, .null, .null, .null, .null, .null, .int 0, .null, .null, .null, .null, .null, .null, .null, .null, .null, .null, .null, .null, .null, .null, .null, .null, .null])), (q7, .inl (c3.1, 9, .inl (fun _ => 0)))] : va_W)) H := hP
  have hD : va_D (aC h0 sz) (([(h0, .inr (5, [.int 0, .null, .null, .null, .null, .null, .null, .int 0, .null, .null, .null, .null, .null, .null, .null, .null, .null, .null, .null, .null, .null, .null, .null, .null, .null])), (q7, .inl (c3.1, 9, .inl (fun _ => 0)))] : va_W)) := hD
  refine va_putF (D := G) (ci := 5) (v := .ref q7) (ty := (.array .int)) (C := RM) (T := TM) (N := 25) hx hb (hT.hts args) inM tyM tkM nmM hown hK hP hD hS 0 rfl rfl 1 (by decide) (hT.1 _ wf_M_7 _) (fun _ h9 => h9) rfl hin rfl (by decide +kernel) rfl rfl (Nat.le_of_ble_eq_true rfl) d_M_init_9 (fun H locs hP hD hS => ?_)
  have hP : va_P G kl (([(h0, .inr (5, [.int 0, .ref q7, .null, .null, .null, .null, .null, .int 0, .null, .null, .null, .null, .null, .null, .null, .null, .null, .null, .null, .null, .null, .null, .null, .null, .null])), (q7, .inl (c3.1, 9, .inl (fun _ => 0)))] : va_W)) H := hP
  have hD : va_D (aC h0 sz) (([(h0, .inr (5, [.int 0, .ref q7, .null, .null, .null, .null, .null, .int 0, .null, .null, .null, .null, .null, .null, .null, .null, .null, .null, .null, .null, .null, .null, .null, .null, .null])), (q7, .inl (c3.1, 9, .inl (fun _ => 0)))] : va_W)) := hD
  refine lv_aload_n hx hb d_M_init_12 rfl (lv_at hl 0 rfl) ?_
  refine lv_bipush (v := 6) hx hb d_M_init_13 rfl ?_
  refine xn_newa hx hb hT hK hP hD hS hA (N := 6) (by decide) (by decide) (by decide) (by decide) (by decide) d_M_init_15 (fun q15 H hP hD hS => ?_)
  have hP : va_P G kl (([(h0, .inr (5, [.int 0, .ref q7, .null, .null, .null, .null, .null, .int 0, .null, .null, .null, .null, .null, .null, .null, .null, .null, .null, .null, .null, .null, .null, .null, .null, .null])), (q7, .inl (c3.1, 9, .inl (fun _ => 0))), (q15, .inl (c3.1, 6, .inl (fun _ => 0)))] : va_W)) H := hP
  have hD : va_D (aC h0 sz) (([(h0, .inr (5, [.int 0, .ref q7, .null, .null, .null, .null, .null, .int 0, .null, .null, .null, .null, .null, .null, .null, .null, .null, .null, .null, .null, .null, .null, .null, .null, .null])), (q7, .inl (c3.1, 9, .inl (fun _ => 0))), (q15, .inl (c3.1, 6, .inl (fun _ => 0)))] : va_W)) := hD
  refine va_putF (D := G) (ci := 5) (v := .ref q15) (ty := (.array .int)) (C := RM) (T := TM) (N := 25) hx hb (hT.hts args) inM tyM tkM nmM hown hK hP hD hS 0 rfl rfl 2 (by decide) (hT.1 _ wf_M_13 _) (fun _ h9 => h9) rfl hin rfl (by decide +kernel) rfl rfl (Nat.le_of_ble_eq_true rfl) d_M_init_17 (fun H locs hP hD hS => ?_)
  have hP : va_P G kl (([(h0, .inr (5, [.int 0, .ref q7, .ref q15, .null, .null, .null, .null, .int 0, .null, .null, .null, .null, .null, .null, .null, .null, .null, .null, .null, .null, .null, .null, .null, .null, .null])), (q7, .inl (c3.1, 9, .inl (fun _ => 0))), (q15, .inl (c3.1, 6, .inl (fun _ => 0)))] : va_W)) H := hP
  have hD : va_D (aC h0 sz) (([(h0, .inr (5, [.int 0, .ref q7, .ref q15, .null, .null, .null, .null, .int 0, .null, .null, .null, .null, .null, .null, .null, .null, .null, .null, .null, .null, .null, .null, .null, .null, .null])), (q7, .inl (c3.1, 9, .inl (fun _ => 0))), (q15, .inl (c3.1, 6, .inl (fun _ => 0)))] : va_W)) := hD
  refine lv_aload_n hx hb d_M_init_20 rfl (lv_at hl 0 rfl) ?_
  refine lv_bipush (v := 9) hx hb d_M_init_21 rfl ?_
  refine xn_newa hx hb hT hK hP hD hS hA (N := 9) (by decide) (by decide) (by decide) (by decide) (by decide) d_M_init_23 (fun q23 H hP hD hS => ?_)
  have hP : va_P G kl (([(h0, .inr (5, [.int 0, .ref q7, .ref q15, .null, .null, .null, .null, .int 0, .null, .null, .null, .null, .null, .null, .null, .null, .null, .null, .null, .null, .null, .null, .null, .null, .null])), (q7, .inl (c3.1, 9, .inl (fun _ => 0))), (q15, .inl (c3.1, 6, .inl (fun _ => 0))), (q23, .inl (c3.1, 9, .inl (fun _ => 0)))] : va_W)) H := hP
  have hD : va_D (aC h0 sz) (([(h0, .inr (5, [.int 0, .ref q7, .ref q15, .null, .null, .null, .null, .int 0, .null, .null, .null, .null, .null, .null, .null, .null, .null, .null, .null, .null, .null, .null, .null, .null, .null])), (q7, .inl (c3.1, 9, .inl (fun _ => 0))), (q15, .inl (c3.1, 6, .inl (fun _ => 0))), (q23, .inl (c3.1, 9, .inl (fun _ => 0)))] : va_W)) := hD
  refine va_putF (D := G) (ci := 5) (v := .ref q23) (ty := (.array .int)) (C := RM) (T := TM) (N := 25) hx hb (hT.hts args) inM tyM tkM nmM hown hK hP hD hS 0 rfl rfl 3 (by decide) (hT.1 _ wf_M_16 _) (fun _ h9 => h9) rfl hin rfl (by decide +kernel) rfl rfl (Nat.le_of_ble_eq_true rfl) d_M_init_25 (fun H locs hP hD hS => ?_)
  have hP : va_P G kl (([(h0, .inr (5, [.int 0, .ref q7, .ref q15, .ref q23, .null, .null, .null, .int 0, .null, .null, .null, .null, .null, .null, .null, .null, .null, .null, .null, .null, .null, .null, .null, .null, .null])), (q7, .inl (c3.1, 9, .inl (fun _ => 0))), (q15, .inl (c3.1, 6, .inl (fun _ => 0))), (q23, .inl (c3.1, 9, .inl (fun _ => 0)))] : va_W)) H := hP
  have hD : va_D (aC h0 sz) (([(h0, .inr (5, [.int 0, .ref q7, .ref q15, .ref q23, .null, .null, .null, .int 0, .null, .null, .null, .null, .null, .null, .null, .null, .null, .null, .null, .null, .null, .null, .null, .null, .null])), (q7, .inl (c3.1, 9, .inl (fun _ => 0))), (q15, .inl (c3.1, 6, .inl (fun _ => 0))), (q23, .inl (c3.1, 9, .inl (fun _ => 0)))] : va_W)) := hD
  refine lv_aload_n hx hb d_M_init_28 rfl (lv_at hl 0 rfl) ?_
  refine lv_sipush (v := 360) hx hb d_M_init_29 rfl ?_
  refine xn_newz hx hb hT hK hP hD hS hA (N := 360) (by decide) (by decide) (by decide) (by decide) (by decide) d_M_init_32 (fun q32 H hP hD hS => ?_)
  have hP : va_P G kl (([(h0, .inr (5, [.int 0, .ref q7, .ref q15, .ref q23, .null, .null, .null, .int 0, .null, .null, .null, .null, .null, .null, .null, .null, .null, .null, .null, .null, .null, .null, .null, .null, .null])), (q7, .inl (c3.1, 9, .inl (fun _ => 0))), (q15, .inl (c3.1, 6, .inl (fun _ => 0))), (q23, .inl (c3.1, 9, .inl (fun _ => 0))), (q32, .inl (c3.2.1, 360, .inl (fun _ => 0)))] : va_W)) H := hP
  have hD : va_D (aC h0 sz) (([(h0, .inr (5, [.int 0, .ref q7, .ref q15, .ref q23, .null, .null, .null, .int 0, .null, .null, .null, .null, .null, .null, .null, .null, .null, .null, .null, .null, .null, .null, .null, .null, .null])), (q7, .inl (c3.1, 9, .inl (fun _ => 0))), (q15, .inl (c3.1, 6, .inl (fun _ => 0))), (q23, .inl (c3.1, 9, .inl (fun _ => 0))), (q32, .inl (c3.2.1, 360, .inl (fun _ => 0)))] : va_W)) := hD
  refine va_putF (D := G) (ci := 5) (v := .ref q32) (ty := (.array .boolean)) (C := RM) (T := TM) (N := 25) hx hb (hT.hts args) inM tyM tkM nmM hown hK hP hD hS 0 rfl rfl 4 (by decide) (hT.1 _ wf_M_19 _) (fun _ h9 => h9) rfl hin rfl (by decide +kernel) rfl rfl (Nat.le_of_ble_eq_true rfl) d_M_init_34 (fun H locs hP hD hS => ?_)
  have hP : va_P G kl (([(h0, .inr (5, [.int 0, .ref q7, .ref q15, .ref q23, .ref q32, .null, .null, .int 0, .null, .null, .null, .null, .null, .null, .null, .null, .null, .null, .null, .null, .null, .null, .null, .null, .null])), (q7, .inl (c3.1, 9, .inl (fun _ => 0))), (q15, .inl (c3.1, 6, .inl (fun _ => 0))), (q23, .inl (c3.1, 9, .inl (fun _ => 0))), (q32, .inl (c3.2.1, 360, .inl (fun _ => 0)))] : va_W)) H := hP
  have hD : va_D (aC h0 sz) (([(h0, .inr (5, [.int 0, .ref q7, .ref q15, .ref q23, .ref q32, .null, .null, .int 0, .null, .null, .null, .null, .null, .null, .null, .null, .null, .null, .null, .null, .null, .null, .null, .null, .null])), (q7, .inl (c3.1, 9, .inl (fun _ => 0))), (q15, .inl (c3.1, 6, .inl (fun _ => 0))), (q23, .inl (c3.1, 9, .inl (fun _ => 0))), (q32, .inl (c3.2.1, 360, .inl (fun _ => 0)))] : va_W)) := hD
  refine lv_aload_n hx hb d_M_init_37 rfl (lv_at hl 0 rfl) ?_
  refine lv_bipush (v := 40) hx hb d_M_init_38 rfl ?_
  refine xn_newz hx hb hT hK hP hD hS hA (N := 40) (by decide) (by decide) (by decide) (by decide) (by decide) d_M_init_40 (fun q40 H hP hD hS => ?_)
  have hP : va_P G kl (([(h0, .inr (5, [.int 0, .ref q7, .ref q15, .ref q23, .ref q32, .null, .null, .int 0, .null, .null, .null, .null, .null, .null, .null, .null, .null, .null, .null, .null, .null, .null, .null, .null, .null])), (q7, .inl (c3.1, 9, .inl (fun _ => 0))), (q15, .inl (c3.1, 6, .inl (fun _ => 0))), (q23, .inl (c3.1, 9, .inl (fun _ => 0))), (q32, .inl (c3.2.1, 360, .inl (fun _ => 0))), (q40, .inl (c3.2.1, 40, .inl (fun _ => 0)))] : va_W)) H := hP
  have hD : va_D (aC h0 sz) (([(h0, .inr (5, [.int 0, .ref q7, .ref q15, .ref q23, .ref q32, .null, .null, .int 0, .null, .null, .null, .null, .null, .null, .null, .null, .null, .null, .null, .null, .null, .null, .null, .null, .null])), (q7, .inl (c3.1, 9, .inl (fun _ => 0))), (q15, .inl (c3.1, 6, .inl (fun _ => 0))), (q23, .inl (c3.1, 9, .inl (fun _ => 0))), (q32, .inl (c3.2.1, 360, .inl (fun _ => 0))), (q40, .inl (c3.2.1, 40, .inl (fun _ => 0)))] : va_W)) := hD
  refine va_putF (D := G) (ci := 5) (v := .ref q40) (ty := (.array .boolean)) (C := RM) (T := TM) (N := 25) hx hb (hT.hts args) inM tyM tkM nmM hown hK hP hD hS 0 rfl rfl 5 (by decide) (hT.1 _ wf_M_23 _) (fun _ h9 => h9) rfl hin rfl (by decide +kernel) rfl rfl (Nat.le_of_ble_eq_true rfl) d_M_init_42 (fun H locs hP hD hS => ?_)
  have hP : va_P G kl (([(h0, .inr (5, [.int 0, .ref q7, .ref q15, .ref q23, .ref q32, .ref q40, .null, .int 0, .null, .null, .null, .null, .null, .null, .null, .null, .null, .null, .null, .null, .null, .null, .null, .null, .null])), (q7, .inl (c3.1, 9, .inl (fun _ => 0))), (q15, .inl (c3.1, 6, .inl (fun _ => 0))), (q23, .inl (c3.1, 9, .inl (fun _ => 0))), (q32, .inl (c3.2.1, 360, .inl (fun _ => 0))), (q40, .inl (c3.2.1, 40, .inl (fun _ => 0)))] : va_W)) H := hP
  have hD : va_D (aC h0 sz) (([(h0, .inr (5, [.int 0, .ref q7, .ref q15, .ref q23, .ref q32, .ref q40, .null, .int 0, .null, .null, .null, .null, .null, .null, .null, .null, .null, .null, .null, .null, .null, .null, .null, .null, .null])), (q7, .inl (c3.1, 9, .inl (fun _ => 0))), (q15, .inl (c3.1, 6, .inl (fun _ => 0))), (q23, .inl (c3.1, 9, .inl (fun _ => 0))), (q32, .inl (c3.2.1, 360, .inl (fun _ => 0))), (q40, .inl (c3.2.1, 40, .inl (fun _ => 0)))] : va_W)) := hD
  refine lv_aload_n hx hb d_M_init_45 rfl (lv_at hl 0 rfl) ?_
  refine lv_sipush (v := 243) hx hb d_M_init_46 rfl ?_
  refine xn_newz hx hb hT hK hP hD hS hA (N := 243) (by decide) (by decide) (by decide) (by decide) (by decide) d_M_init_49 (fun q49 H hP hD hS => ?_)
  have hP : va_P G kl (([(h0, .inr (5, [.int 0, .ref q7, .ref q15, .ref q23, .ref q32, .ref q40, .null, .int 0, .null, .null, .null, .null, .null, .null, .null, .null, .null, .null, .null, .null, .null, .null, .null, .null, .null])), (q7, .inl (c3.1, 9, .inl (fun _ => 0))), (q15, .inl (c3.1, 6, .inl (fun _ => 0))), (q23, .inl (c3.1, 9, .inl (fun _ => 0))), (q32, .inl (c3.2.1, 360, .inl (fun _ => 0))), (q40, .inl (c3.2.1, 40, .inl (fun _ => 0))), (q49, .inl (c3.2.1, 243, .inl (fun _ => 0)))] : va_W)) H := hP
  have hD : va_D (aC h0 sz) (([(h0, .inr (5, [.int 0, .ref q7, .ref q15, .ref q23, .ref q32, .ref q40, .null, .int 0, .null, .null, .null, .null, .null, .null, .null, .null, .null, .null, .null, .null, .null, .null, .null, .null, .null])), (q7, .inl (c3.1, 9, .inl (fun _ => 0))), (q15, .inl (c3.1, 6, .inl (fun _ => 0))), (q23, .inl (c3.1, 9, .inl (fun _ => 0))), (q32, .inl (c3.2.1, 360, .inl (fun _ => 0))), (q40, .inl (c3.2.1, 40, .inl (fun _ => 0))), (q49, .inl (c3.2.1, 243, .inl (fun _ => 0)))] : va_W)) := hD
  refine va_putF (D := G) (ci := 5) (v := .ref q49) (ty := (.array .boolean)) (C := RM) (T := TM) (N := 25) hx hb (hT.hts args) inM tyM tkM nmM hown hK hP hD hS 0 rfl rfl 6 (by decide) (hT.1 _ wf_M_26 _) (fun _ h9 => h9) rfl hin rfl (by decide +kernel) rfl rfl (Nat.le_of_ble_eq_true rfl) d_M_init_51 (fun H locs hP hD hS => ?_)
  have hP : va_P G kl (([(h0, .inr (5, [.int 0, .ref q7, .ref q15, .ref q23, .ref q32, .ref q40, .ref q49, .int 0, .null, .null, .null, .null, .null, .null, .null, .null, .null, .null, .null, .null, .null, .null, .null, .null, .null])), (q7, .inl (c3.1, 9, .inl (fun _ => 0))), (q15, .inl (c3.1, 6, .inl (fun _ => 0))), (q23, .inl (c3.1, 9, .inl (fun _ => 0))), (q32, .inl (c3.2.1, 360, .inl (fun _ => 0))), (q40, .inl (c3.2.1, 40, .inl (fun _ => 0))), (q49, .inl (c3.2.1, 243, .inl (fun _ => 0)))] : va_W)) H := hP
  have hD : va_D (aC h0 sz) (([(h0, .inr (5, [.int 0, .ref q7, .ref q15, .ref q23, .ref q32, .ref q40, .ref q49, .int 0, .null, .null, .null, .null, .null, .null, .null, .null, .null, .null, .null, .null, .null, .null, .null, .null, .null])), (q7, .inl (c3.1, 9, .inl (fun _ => 0))), (q15, .inl (c3.1, 6, .inl (fun _ => 0))), (q23, .inl (c3.1, 9, .inl (fun _ => 0))), (q32, .inl (c3.2.1, 360, .inl (fun _ => 0))), (q40, .inl (c3.2.1, 40, .inl (fun _ => 0))), (q49, .inl (c3.2.1, 243, .inl (fun _ => 0)))] : va_W)) := hD
  refine lv_aload_n hx hb d_M_init_54 rfl (lv_at hl 0 rfl) ?_
  refine lv_bipush (v := 9) hx hb d_M_init_55 rfl ?_
  refine xn_newa hx hb hT hK hP hD hS hA (N := 9) (by decide) (by decide) (by decide) (by decide) (by decide) d_M_init_57 (fun q57 H hP hD hS => ?_)
  have hP : va_P G kl (([(h0, .inr (5, [.int 0, .ref q7, .ref q15, .ref q23, .ref q32, .ref q40, .ref q49, .int 0, .null, .null, .null, .null, .null, .null, .null, .null, .null, .null, .null, .null, .null, .null, .null, .null, .null])), (q7, .inl (c3.1, 9, .inl (fun _ => 0))), (q15, .inl (c3.1, 6, .inl (fun _ => 0))), (q23, .inl (c3.1, 9, .inl (fun _ => 0))), (q32, .inl (c3.2.1, 360, .inl (fun _ => 0))), (q40, .inl (c3.2.1, 40, .inl (fun _ => 0))), (q49, .inl (c3.2.1, 243, .inl (fun _ => 0))), (q57, .inl (c3.1, 9, .inl (fun _ => 0)))] : va_W)) H := hP
  have hD : va_D (aC h0 sz) (([(h0, .inr (5, [.int 0, .ref q7, .ref q15, .ref q23, .ref q32, .ref q40, .ref q49, .int 0, .null, .null, .null, .null, .null, .null, .null, .null, .null, .null, .null, .null, .null, .null, .null, .null, .null])), (q7, .inl (c3.1, 9, .inl (fun _ => 0))), (q15, .inl (c3.1, 6, .inl (fun _ => 0))), (q23, .inl (c3.1, 9, .inl (fun _ => 0))), (q32, .inl (c3.2.1, 360, .inl (fun _ => 0))), (q40, .inl (c3.2.1, 40, .inl (fun _ => 0))), (q49, .inl (c3.2.1, 243, .inl (fun _ => 0))), (q57, .inl (c3.1, 9, .inl (fun _ => 0)))] : va_W)) := hD
  refine va_putF (D := G) (ci := 5) (v := .ref q57) (ty := (.array .int)) (C := RM) (T := TM) (N := 25) hx hb (hT.hts args) inM tyM tkM nmM hown hK hP hD hS 0 rfl rfl 8 (by decide) (hT.1 _ wf_M_29 _) (fun _ h9 => h9) rfl hin rfl (by decide +kernel) rfl rfl (Nat.le_of_ble_eq_true rfl) d_M_init_59 (fun H locs hP hD hS => ?_)
  have hP : va_P G kl (([(h0, .inr (5, [.int 0, .ref q7, .ref q15, .ref q23, .ref q32, .ref q40, .ref q49, .int 0, .ref q57, .null, .null, .null, .null, .null, .null, .null, .null, .null, .null, .null, .null, .null, .null, .null, .null])), (q7, .inl (c3.1, 9, .inl (fun _ => 0))), (q15, .inl (c3.1, 6, .inl (fun _ => 0))), (q23, .inl (c3.1, 9, .inl (fun _ => 0))), (q32, .inl (c3.2.1, 360, .inl (fun _ => 0))), (q40, .inl (c3.2.1, 40, .inl (fun _ => 0))), (q49, .inl (c3.2.1, 243, .inl (fun _ => 0))), (q57, .inl (c3.1, 9, .inl (fun _ => 0)))] : va_W)) H := hP
  have hD : va_D (aC h0 sz) (([(h0, .inr (5, [.int 0, .ref q7, .ref q15, .ref q23, .ref q32, .ref q40, .ref q49, .int 0, .ref q57, .null, .null, .null, .null, .null, .null, .null, .null, .null, .null, .null, .null, .null, .null, .null, .null])), (q7, .inl (c3.1, 9, .inl (fun _ => 0))), (q15, .inl (c3.1, 6, .inl (fun _ => 0))), (q23, .inl (c3.1, 9, .inl (fun _ => 0))), (q32, .inl (c3.2.1, 360, .inl (fun _ => 0))), (q40, .inl (c3.2.1, 40, .inl (fun _ => 0))), (q49, .inl (c3.2.1, 243, .inl (fun _ => 0))), (q57, .inl (c3.1, 9, .inl (fun _ => 0)))] : va_W)) := hD
  refine lv_aload_n hx hb d_M_init_62 rfl (lv_at hl 0 rfl) ?_
  refine lv_sipush (v := 3584) hx hb d_M_init_63 rfl ?_
  refine xn_newa hx hb hT hK hP hD hS hA (N := 3584) (by decide) (by decide) (by decide) (by decide) (by decide) d_M_init_66 (fun q66 H hP hD hS => ?_)
  have hP : va_P G kl (([(h0, .inr (5, [.int 0, .ref q7, .ref q15, .ref q23, .ref q32, .ref q40, .ref q49, .int 0, .ref q57, .null, .null, .null, .null, .null, .null, .null, .null, .null, .null, .null, .null, .null, .null, .null, .null])), (q7, .inl (c3.1, 9, .inl (fun _ => 0))), (q15, .inl (c3.1, 6, .inl (fun _ => 0))), (q23, .inl (c3.1, 9, .inl (fun _ => 0))), (q32, .inl (c3.2.1, 360, .inl (fun _ => 0))), (q40, .inl (c3.2.1, 40, .inl (fun _ => 0))), (q49, .inl (c3.2.1, 243, .inl (fun _ => 0))), (q57, .inl (c3.1, 9, .inl (fun _ => 0))), (q66, .inl (c3.1, 3584, .inl (fun _ => 0)))] : va_W)) H := hP
  have hD : va_D (aC h0 sz) (([(h0, .inr (5, [.int 0, .ref q7, .ref q15, .ref q23, .ref q32, .ref q40, .ref q49, .int 0, .ref q57, .null, .null, .null, .null, .null, .null, .null, .null, .null, .null, .null, .null, .null, .null, .null, .null])), (q7, .inl (c3.1, 9, .inl (fun _ => 0))), (q15, .inl (c3.1, 6, .inl (fun _ => 0))), (q23, .inl (c3.1, 9, .inl (fun _ => 0))), (q32, .inl (c3.2.1, 360, .inl (fun _ => 0))), (q40, .inl (c3.2.1, 40, .inl (fun _ => 0))), (q49, .inl (c3.2.1, 243, .inl (fun _ => 0))), (q57, .inl (c3.1, 9, .inl (fun _ => 0))), (q66, .inl (c3.1, 3584, .inl (fun _ => 0)))] : va_W)) := hD
  refine va_putF (D := G) (ci := 5) (v := .ref q66) (ty := (.array .int)) (C := RM) (T := TM) (N := 25) hx hb (hT.hts args) inM tyM tkM nmM hown hK hP hD hS 0 rfl rfl 9 (by decide) (hT.1 _ wf_M_32 _) (fun _ h9 => h9) rfl hin rfl (by decide +kernel) rfl rfl (Nat.le_of_ble_eq_true rfl) d_M_init_68 (fun H locs hP hD hS => ?_)
  have hP : va_P G kl (([(h0, .inr (5, [.int 0, .ref q7, .ref q15, .ref q23, .ref q32, .ref q40, .ref q49, .int 0, .ref q57, .ref q66, .null, .null, .null, .null, .null, .null, .null, .null, .null, .null, .null, .null, .null, .null, .null])), (q7, .inl (c3.1, 9, .inl (fun _ => 0))), (q15, .inl (c3.1, 6, .inl (fun _ => 0))), (q23, .inl (c3.1, 9, .inl (fun _ => 0))), (q32, .inl (c3.2.1, 360, .inl (fun _ => 0))), (q40, .inl (c3.2.1, 40, .inl (fun _ => 0))), (q49, .inl (c3.2.1, 243, .inl (fun _ => 0))), (q57, .inl (c3.1, 9, .inl (fun _ => 0))), (q66, .inl (c3.1, 3584, .inl (fun _ => 0)))] : va_W)) H := hP
  have hD : va_D (aC h0 sz) (([(h0, .inr (5, [.int 0, .ref q7, .ref q15, .ref q23, .ref q32, .ref q40, .ref q49, .int 0, .ref q57, .ref q66, .null, .null, .null, .null, .null, .null, .null, .null, .null, .null, .null, .null, .null, .null, .null])), (q7, .inl (c3.1, 9, .inl (fun _ => 0))), (q15, .inl (c3.1, 6, .inl (fun _ => 0))), (q23, .inl (c3.1, 9, .inl (fun _ => 0))), (q32, .inl (c3.2.1, 360, .inl (fun _ => 0))), (q40, .inl (c3.2.1, 40, .inl (fun _ => 0))), (q49, .inl (c3.2.1, 243, .inl (fun _ => 0))), (q57, .inl (c3.1, 9, .inl (fun _ => 0))), (q66, .inl (c3.1, 3584, .inl (fun _ => 0)))] : va_W)) := hD
  refine lv_aload_n hx hb d_M_init_71 rfl (lv_at hl 0 rfl) ?_
  refine lv_bipush (v := 9) hx hb d_M_init_72 rfl ?_
  refine xn_newa hx hb hT hK hP hD hS hA (N := 9) (by decide) (by decide) (by decide) (by decide) (by decide) d_M_init_74 (fun q74 H hP hD hS => ?_)
  have hP : va_P G kl (([(h0, .inr (5, [.int 0, .ref q7, .ref q15, .ref q23, .ref q32, .ref q40, .ref q49, .int 0, .ref q57, .ref q66, .null, .null, .null, .null, .null, .null, .null, .null, .null, .null, .null, .null, .null, .null, .null])), (q7, .inl (c3.1, 9, .inl (fun _ => 0))), (q15, .inl (c3.1, 6, .inl (fun _ => 0))), (q23, .inl (c3.1, 9, .inl (fun _ => 0))), (q32, .inl (c3.2.1, 360, .inl (fun _ => 0))), (q40, .inl (c3.2.1, 40, .inl (fun _ => 0))), (q49, .inl (c3.2.1, 243, .inl (fun _ => 0))), (q57, .inl (c3.1, 9, .inl (fun _ => 0))), (q66, .inl (c3.1, 3584, .inl (fun _ => 0))), (q74, .inl (c3.1, 9, .inl (fun _ => 0)))] : va_W)) H := hP
  have hD : va_D (aC h0 sz) (([(h0, .inr (5, [.int 0, .ref q7, .ref q15, .ref q23, .ref q32, .ref q40, .ref q49, .int 0, .ref q57, .ref q66, .null, .null, .null, .null, .null, .null, .null, .null, .null, .null, .null, .null, .null, .null, .null])), (q7, .inl (c3.1, 9, .inl (fun _ => 0))), (q15, .inl (c3.1, 6, .inl (fun _ => 0))), (q23, .inl (c3.1, 9, .inl (fun _ => 0))), (q32, .inl (c3.2.1, 360, .inl (fun _ => 0))), (q40, .inl (c3.2.1, 40, .inl (fun _ => 0))), (q49, .inl (c3.2.1, 243, .inl (fun _ => 0))), (q57, .inl (c3.1, 9, .inl (fun _ => 0))), (q66, .inl (c3.1, 3584, .inl (fun _ => 0))), (q74, .inl (c3.1, 9, .inl (fun _ => 0)))] : va_W)) := hD
  refine va_putF (D := G) (ci := 5) (v := .ref q74) (ty := (.array .int)) (C := RM) (T := TM) (N := 25) hx hb (hT.hts args) inM tyM tkM nmM hown hK hP hD hS 0 rfl rfl 10 (by decide) (hT.1 _ wf_M_35 _) (fun _ h9 => h9) rfl hin rfl (by decide +kernel) rfl rfl (Nat.le_of_ble_eq_true rfl) d_M_init_76 (fun H locs hP hD hS => ?_)
  have hP : va_P G kl (([(h0, .inr (5, [.int 0, .ref q7, .ref q15, .ref q23, .ref q32, .ref q40, .ref q49, .int 0, .ref q57, .ref q66, .ref q74, .null, .null, .null, .null, .null, .null, .null, .null, .null, .null, .null, .null, .null, .null])), (q7, .inl (c3.1, 9, .inl (fun _ => 0))), (q15, .inl (c3.1, 6, .inl (fun _ => 0))), (q23, .inl (c3.1, 9, .inl (fun _ => 0))), (q32, .inl (c3.2.1, 360, .inl (fun _ => 0))), (q40, .inl (c3.2.1, 40, .inl (fun _ => 0))), (q49, .inl (c3.2.1, 243, .inl (fun _ => 0))), (q57, .inl (c3.1, 9, .inl (fun _ => 0))), (q66, .inl (c3.1, 3584, .inl (fun _ => 0))), (q74, .inl (c3.1, 9, .inl (fun _ => 0)))] : va_W)) H := hP
  have hD : va_D (aC h0 sz) (([(h0, .inr (5, [.int 0, .ref q7, .ref q15, .ref q23, .ref q32, .ref q40, .ref q49, .int 0, .ref q57, .ref q66, .ref q74, .null, .null, .null, .null, .null, .null, .null, .null, .null, .null, .null, .null, .null, .null])), (q7, .inl (c3.1, 9, .inl (fun _ => 0))), (q15, .inl (c3.1, 6, .inl (fun _ => 0))), (q23, .inl (c3.1, 9, .inl (fun _ => 0))), (q32, .inl (c3.2.1, 360, .inl (fun _ => 0))), (q40, .inl (c3.2.1, 40, .inl (fun _ => 0))), (q49, .inl (c3.2.1, 243, .inl (fun _ => 0))), (q57, .inl (c3.1, 9, .inl (fun _ => 0))), (q66, .inl (c3.1, 3584, .inl (fun _ => 0))), (q74, .inl (c3.1, 9, .inl (fun _ => 0)))] : va_W)) := hD
  refine lv_aload_n hx hb d_M_init_79 rfl (lv_at hl 0 rfl) ?_
  refine lv_sipush (v := 3072) hx hb d_M_init_80 rfl ?_
  refine xn_newz hx hb hT hK hP hD hS hA (N := 3072) (by decide) (by decide) (by decide) (by decide) (by decide) d_M_init_83 (fun q83 H hP hD hS => ?_)
  have hP : va_P G kl (([(h0, .inr (5, [.int 0, .ref q7, .ref q15, .ref q23, .ref q32, .ref q40, .ref q49, .int 0, .ref q57, .ref q66, .ref q74, .null, .null, .null, .null, .null, .null, .null, .null, .null, .null, .null, .null, .null, .null])), (q7, .inl (c3.1, 9, .inl (fun _ => 0))), (q15, .inl (c3.1, 6, .inl (fun _ => 0))), (q23, .inl (c3.1, 9, .inl (fun _ => 0))), (q32, .inl (c3.2.1, 360, .inl (fun _ => 0))), (q40, .inl (c3.2.1, 40, .inl (fun _ => 0))), (q49, .inl (c3.2.1, 243, .inl (fun _ => 0))), (q57, .inl (c3.1, 9, .inl (fun _ => 0))), (q66, .inl (c3.1, 3584, .inl (fun _ => 0))), (q74, .inl (c3.1, 9, .inl (fun _ => 0))), (q83, .inl (c3.2.1, 3072, .inl (fun _ => 0)))] : va_W)) H := hP
  have hD : va_D (aC h0 sz) (([(h0, .inr (5, [.int 0, .ref q7, .ref q15, .ref q23, .ref q32, .ref q40, .ref q49, .int 0, .ref q57, .ref q66, .ref q74, .null, .null, .null, .null, .null, .null, .null, .null, .null, .null, .null, .null, .null, .null])), (q7, .inl (c3.1, 9, .inl (fun _ => 0))), (q15, .inl (c3.1, 6, .inl (fun _ => 0))), (q23, .inl (c3.1, 9, .inl (fun _ => 0))), (q32, .inl (c3.2.1, 360, .inl (fun _ => 0))), (q40, .inl (c3.2.1, 40, .inl (fun _ => 0))), (q49, .inl (c3.2.1, 243, .inl (fun _ => 0))), (q57, .inl (c3.1, 9, .inl (fun _ => 0))), (q66, .inl (c3.1, 3584, .inl (fun _ => 0))), (q74, .inl (c3.1, 9, .inl (fun _ => 0))), (q83, .inl (c3.2.1, 3072, .inl (fun _ => 0)))] : va_W)) := hD
  refine va_putF (D := G) (ci := 5) (v := .ref q83) (ty := (.array .boolean)) (C := RM) (T := TM) (N := 25) hx hb (hT.hts args) inM tyM tkM nmM hown hK hP hD hS 0 rfl rfl 11 (by decide) (hT.1 _ wf_M_38 _) (fun _ h9 => h9) rfl hin rfl (by decide +kernel) rfl rfl (Nat.le_of_ble_eq_true rfl) d_M_init_85 (fun H locs hP hD hS => ?_)
  have hP : va_P G kl (([(h0, .inr (5, [.int 0, .ref q7, .ref q15, .ref q23, .ref q32, .ref q40, .ref q49, .int 0, .ref q57, .ref q66, .ref q74, .ref q83, .null, .null, .null, .null, .null, .null, .null, .null, .null, .null, .null, .null, .null])), (q7, .inl (c3.1, 9, .inl (fun _ => 0))), (q15, .inl (c3.1, 6, .inl (fun _ => 0))), (q23, .inl (c3.1, 9, .inl (fun _ => 0))), (q32, .inl (c3.2.1, 360, .inl (fun _ => 0))), (q40, .inl (c3.2.1, 40, .inl (fun _ => 0))), (q49, .inl (c3.2.1, 243, .inl (fun _ => 0))), (q57, .inl (c3.1, 9, .inl (fun _ => 0))), (q66, .inl (c3.1, 3584, .inl (fun _ => 0))), (q74, .inl (c3.1, 9, .inl (fun _ => 0))), (q83, .inl (c3.2.1, 3072, .inl (fun _ => 0)))] : va_W)) H := hP
  have hD : va_D (aC h0 sz) (([(h0, .inr (5, [.int 0, .ref q7, .ref q15, .ref q23, .ref q32, .ref q40, .ref q49, .int 0, .ref q57, .ref q66, .ref q74, .ref q83, .null, .null, .null, .null, .null, .null, .null, .null, .null, .null, .null, .null, .null])), (q7, .inl (c3.1, 9, .inl (fun _ => 0))), (q15, .inl (c3.1, 6, .inl (fun _ => 0))), (q23, .inl (c3.1, 9, .inl (fun _ => 0))), (q32, .inl (c3.2.1, 360, .inl (fun _ => 0))), (q40, .inl (c3.2.1, 40, .inl (fun _ => 0))), (q49, .inl (c3.2.1, 243, .inl (fun _ => 0))), (q57, .inl (c3.1, 9, .inl (fun _ => 0))), (q66, .inl (c3.1, 3584, .inl (fun _ => 0))), (q74, .inl (c3.1, 9, .inl (fun _ => 0))), (q83, .inl (c3.2.1, 3072, .inl (fun _ => 0)))] : va_W)) := hD
  refine lv_aload_n hx hb d_M_init_88 rfl (lv_at hl 0 rfl) ?_
  refine lv_sipush (v := 512) hx hb d_M_init_89 rfl ?_
  refine xn_newz hx hb hT hK hP hD hS hA (N := 512) (by decide) (by decide) (by decide) (by decide) (by decide) d_M_init_92 (fun q92 H hP hD hS => ?_)
  have hP : va_P G kl (([(h0, .inr (5, [.int 0, .ref q7, .ref q15, .ref q23, .ref q32, .ref q40, .ref q49, .int 0, .ref q57, .ref q66, .ref q74, .ref q83, .null, .null, .null, .null, .null, .null, .null, .null, .null, .null, .null, .null, .null])), (q7, .inl (c3.1, 9, .inl (fun _ => 0))), (q15, .inl (c3.1, 6, .inl (fun _ => 0))), (q23, .inl (c3.1, 9, .inl (fun _ => 0))), (q32, .inl (c3.2.1, 360, .inl (fun _ => 0))), (q40, .inl (c3.2.1, 40, .inl (fun _ => 0))), (q49, .inl (c3.2.1, 243, .inl (fun _ => 0))), (q57, .inl (c3.1, 9, .inl (fun _ => 0))), (q66, .inl (c3.1, 3584, .inl (fun _ => 0))), (q74, .inl (c3.1, 9, .inl (fun _ => 0))), (q83, .inl (c3.2.1, 3072, .inl (fun _ => 0))), (q92, .inl (c3.2.1, 512, .inl (fun _ => 0)))] : va_W)) H := hP
  have hD : va_D (aC h0 sz) (([(h0, .inr (5, [.int 0, .ref q7, .ref q15, .ref q23, .ref q32, .ref q40, .ref q49, .int 0, .ref q57, .ref q66, .ref q74, .ref q83, .null, .null, .null, .null, .null, .null, .null, .null, .null, .null, .null, .null, .null])), (q7, .inl (c3.1, 9, .inl (fun _ => 0))), (q15, .inl (c3.1, 6, .inl (fun _ => 0))), (q23, .inl (c3.1, 9, .inl (fun _ => 0))), (q32, .inl (c3.2.1, 360, .inl (fun _ => 0))), (q40, .inl (c3.2.1, 40, .inl (fun _ => 0))), (q49, .inl (c3.2.1, 243, .inl (fun _ => 0))), (q57, .inl (c3.1, 9, .inl (fun _ => 0))), (q66, .inl (c3.1, 3584, .inl (fun _ => 0))), (q74, .inl (c3.1, 9, .inl (fun _ => 0))), (q83, .inl (c3.2.1, 3072, .inl (fun _ => 0))), (q92, .inl (c3.2.1, 512, .inl (fun _ => 0)))] : va_W)) := hD
  refine va_putF (D := G) (ci := 5) (v := .ref q92) (ty := (.array .boolean)) (C := RM) (T := TM) (N := 25) hx hb (hT.hts args) inM tyM tkM nmM hown hK hP hD hS 0 rfl rfl 12 (by decide) (hT.1 _ wf_M_41 _) (fun _ h9 => h9) rfl hin rfl (by decide +kernel) rfl rfl (Nat.le_of_ble_eq_true rfl) d_M_init_94 (fun H locs hP hD hS => ?_)
  have hP : va_P G kl (([(h0, .inr (5, [.int 0, .ref q7, .ref q15, .ref q23, .ref q32, .ref q40, .ref q49, .int 0, .ref q57, .ref q66, .ref q74, .ref q83, .ref q92, .null, .null, .null, .null, .null, .null, .null, .null, .null, .null, .null, .null])), (q7, .inl (c3.1, 9, .inl (fun _ => 0))), (q15, .inl (c3.1, 6, .inl (fun _ => 0))), (q23, .inl (c3.1, 9, .inl (fun _ => 0))), (q32, .inl (c3.2.1, 360, .inl (fun _ => 0))), (q40, .inl (c3.2.1, 40, .inl (fun _ => 0))), (q49, .inl (c3.2.1, 243, .inl (fun _ => 0))), (q57, .inl (c3.1, 9, .inl (fun _ => 0))), (q66, .inl (c3.1, 3584, .inl (fun _ => 0))), (q74, .inl (c3.1, 9, .inl (fun _ => 0))), (q83, .inl (c3.2.1, 3072, .inl (fun _ => 0))), (q92, .inl (c3.2.1, 512, .inl (fun _ => 0)))] : va_W)) H := hP
  have hD : va_D (aC h0 sz) (([(h0, .inr (5, [.int 0, .ref q7, .ref q15, .ref q23, .ref q32, .ref q40, .ref q49, .int 0, .ref q57, .ref q66, .ref q74, .ref q83, .ref q92, .null, .null, .null, .null, .null, .null, .null, .null, .null, .null, .null, .null])), (q7, .inl (c3.1, 9, .inl (fun _ => 0))), (q15, .inl (c3.1, 6, .inl (fun _ => 0))), (q23, .inl (c3.1, 9, .inl (fun _ => 0))), (q32, .inl (c3.2.1, 360, .inl (fun _ => 0))), (q40, .inl (c3.2.1, 40, .inl (fun _ => 0))), (q49, .inl (c3.2.1, 243, .inl (fun _ => 0))), (q57, .inl (c3.1, 9, .inl (fun _ => 0))), (q66, .inl (c3.1, 3584, .inl (fun _ => 0))), (q74, .inl (c3.1, 9, .inl (fun _ => 0))), (q83, .inl (c3.2.1, 3072, .inl (fun _ => 0))), (q92, .inl (c3.2.1, 512, .inl (fun _ => 0)))] : va_W)) := hD
  refine lv_aload_n hx hb d_M_init_97 rfl (lv_at hl 0 rfl) ?_
  refine lv_bipush (v := 81) hx hb d_M_init_98 rfl ?_
  refine xn_newz hx hb hT hK hP hD hS hA (N := 81) (by decide) (by decide) (by decide) (by decide) (by decide) d_M_init_100 (fun q100 H hP hD hS => ?_)
  have hP : va_P G kl (([(h0, .inr (5, [.int 0, .ref q7, .ref q15, .ref q23, .ref q32, .ref q40, .ref q49, .int 0, .ref q57, .ref q66, .ref q74, .ref q83, .ref q92, .null, .null, .null, .null, .null, .null, .null, .null, .null, .null, .null, .null])), (q7, .inl (c3.1, 9, .inl (fun _ => 0))), (q15, .inl (c3.1, 6, .inl (fun _ => 0))), (q23, .inl (c3.1, 9, .inl (fun _ => 0))), (q32, .inl (c3.2.1, 360, .inl (fun _ => 0))), (q40, .inl (c3.2.1, 40, .inl (fun _ => 0))), (q49, .inl (c3.2.1, 243, .inl (fun _ => 0))), (q57, .inl (c3.1, 9, .inl (fun _ => 0))), (q66, .inl (c3.1, 3584, .inl (fun _ => 0))), (q74, .inl (c3.1, 9, .inl (fun _ => 0))), (q83, .inl (c3.2.1, 3072, .inl (fun _ => 0))), (q92, .inl (c3.2.1, 512, .inl (fun _ => 0))), (q100, .inl (c3.2.1, 81, .inl (fun _ => 0)))] : va_W)) H := hP
  have hD : va_D (aC h0 sz) (([(h0, .inr (5, [.int 0, .ref q7, .ref q15, .ref q23, .ref q32, .ref q40, .ref q49, .int 0, .ref q57, .ref q66, .ref q74, .ref q83, .ref q92, .null, .null, .null, .null, .null, .null, .null, .null, .null, .null, .null, .null])), (q7, .inl (c3.1, 9, .inl (fun _ => 0))), (q15, .inl (c3.1, 6, .inl (fun _ => 0))), (q23, .inl (c3.1, 9, .inl (fun _ => 0))), (q32, .inl (c3.2.1, 360, .inl (fun _ => 0))), (q40, .inl (c3.2.1, 40, .inl (fun _ => 0))), (q49, .inl (c3.2.1, 243, .inl (fun _ => 0))), (q57, .inl (c3.1, 9, .inl (fun _ => 0))), (q66, .inl (c3.1, 3584, .inl (fun _ => 0))), (q74, .inl (c3.1, 9, .inl (fun _ => 0))), (q83, .inl (c3.2.1, 3072, .inl (fun _ => 0))), (q92, .inl (c3.2.1, 512, .inl (fun _ => 0))), (q100, .inl (c3.2.1, 81, .inl (fun _ => 0)))] : va_W)) := hD
  refine va_putF (D := G) (ci := 5) (v := .ref q100) (ty := (.array .boolean)) (C := RM) (T := TM) (N := 25) hx hb (hT.hts args) inM tyM tkM nmM hown hK hP hD hS 0 rfl rfl 13 (by decide) (hT.1 _ wf_M_44 _) (fun _ h9 => h9) rfl hin rfl (by decide +kernel) rfl rfl (Nat.le_of_ble_eq_true rfl) d_M_init_102 (fun H locs hP hD hS => ?_)
  have hP : va_P G kl (([(h0, .inr (5, [.int 0, .ref q7, .ref q15, .ref q23, .ref q32, .ref q40, .ref q49, .int 0, .ref q57, .ref q66, .ref q74, .ref q83, .ref q92, .ref q100, .null, .null, .null, .null, .null, .null, .null, .null, .null, .null, .null])), (q7, .inl (c3.1, 9, .inl (fun _ => 0))), (q15, .inl (c3.1, 6, .inl (fun _ => 0))), (q23, .inl (c3.1, 9, .inl (fun _ => 0))), (q32, .inl (c3.2.1, 360, .inl (fun _ => 0))), (q40, .inl (c3.2.1, 40, .inl (fun _ => 0))), (q49, .inl (c3.2.1, 243, .inl (fun _ => 0))), (q57, .inl (c3.1, 9, .inl (fun _ => 0))), (q66, .inl (c3.1, 3584, .inl (fun _ => 0))), (q74, .inl (c3.1, 9, .inl (fun _ => 0))), (q83, .inl (c3.2.1, 3072, .inl (fun _ => 0))), (q92, .inl (c3.2.1, 512, .inl (fun _ => 0))), (q100, .inl (c3.2.1, 81, .inl (fun _ => 0)))] : va_W)) H := hP
  have hD : va_D (aC h0 sz) (([(h0, .inr (5, [.int 0, .ref q7, .ref q15, .ref q23, .ref q32, .ref q40, .ref q49, .int 0, .ref q57, .ref q66, .ref q74, .ref q83, .ref q92, .ref q100, .null, .null, .null, .null, .null, .null, .null, .null, .null, .null, .null])), (q7, .inl (c3.1, 9, .inl (fun _ => 0))), (q15, .inl (c3.1, 6, .inl (fun _ => 0))), (q23, .inl (c3.1, 9, .inl (fun _ => 0))), (q32, .inl (c3.2.1, 360, .inl (fun _ => 0))), (q40, .inl (c3.2.1, 40, .inl (fun _ => 0))), (q49, .inl (c3.2.1, 243, .inl (fun _ => 0))), (q57, .inl (c3.1, 9, .inl (fun _ => 0))), (q66, .inl (c3.1, 3584, .inl (fun _ => 0))), (q74, .inl (c3.1, 9, .inl (fun _ => 0))), (q83, .inl (c3.2.1, 3072, .inl (fun _ => 0))), (q92, .inl (c3.2.1, 512, .inl (fun _ => 0))), (q100, .inl (c3.2.1, 81, .inl (fun _ => 0)))] : va_W)) := hD
  refine lv_aload_n hx hb d_M_init_105 rfl (lv_at hl 0 rfl) ?_
  refine lv_iconst (v := 4) hx hb d_M_init_106 rfl ?_
  refine xn_newa hx hb hT hK hP hD hS hA (N := 4) (by decide) (by decide) (by decide) (by decide) (by decide) d_M_init_107 (fun q107 H hP hD hS => ?_)
  have hP : va_P G kl (([(h0, .inr (5, [.int 0, .ref q7, .ref q15, .ref q23, .ref q32, .ref q40, .ref q49, .int 0, .ref q57, .ref q66, .ref q74, .ref q83, .ref q92, .ref q100, .null, .null, .null, .null, .null, .null, .null, .null, .null, .null, .null])), (q7, .inl (c3.1, 9, .inl (fun _ => 0))), (q15, .inl (c3.1, 6, .inl (fun _ => 0))), (q23, .inl (c3.1, 9, .inl (fun _ => 0))), (q32, .inl (c3.2.1, 360, .inl (fun _ => 0))), (q40, .inl (c3.2.1, 40, .inl (fun _ => 0))), (q49, .inl (c3.2.1, 243, .inl (fun _ => 0))), (q57, .inl (c3.1, 9, .inl (fun _ => 0))), (q66, .inl (c3.1, 3584, .inl (fun _ => 0))), (q74, .inl (c3.1, 9, .inl (fun _ => 0))), (q83, .inl (c3.2.1, 3072, .inl (fun _ => 0))), (q92, .inl (c3.2.1, 512, .inl (fun _ => 0))), (q100, .inl (c3.2.1, 81, .inl (fun _ => 0))), (q107, .inl (c3.1, 4, .inl (fun _ => 0)))] : va_W)) H := hP
  have hD : va_D (aC h0 sz) (([(h0, .inr (5, [.int 0, .ref q7, .ref q15, .ref q23, .ref q32, .ref q40, .ref q49, .int 0, .ref q57, .ref q66, .ref q74, .ref q83, .ref q92, .ref q100, .null, .null, .null, .null, .null, .null, .null, .null, .null, .null, .null])), (q7, .inl (c3.1, 9, .inl (fun _ => 0))), (q15, .inl (c3.1, 6, .inl (fun _ => 0))), (q23, .inl (c3.1, 9, .inl (fun _ => 0))), (q32, .inl (c3.2.1, 360, .inl (fun _ => 0))), (q40, .inl (c3.2.1, 40, .inl (fun _ => 0))), (q49, .inl (c3.2.1, 243, .inl (fun _ => 0))), (q57, .inl (c3.1, 9, .inl (fun _ => 0))), (q66, .inl (c3.1, 3584, .inl (fun _ => 0))), (q74, .inl (c3.1, 9, .inl (fun _ => 0))), (q83, .inl (c3.2.1, 3072, .inl (fun _ => 0))), (q92, .inl (c3.2.1, 512, .inl (fun _ => 0))), (q100, .inl (c3.2.1, 81, .inl (fun _ => 0))), (q107, .inl (c3.1, 4, .inl (fun _ => 0)))] : va_W)) := hD
  refine va_putF (D := G) (ci := 5) (v := .ref q107) (ty := (.array .int)) (C := RM) (T := TM) (N := 25) hx hb (hT.hts args) inM tyM tkM nmM hown hK hP hD hS 0 rfl rfl 14 (by decide) (hT.1 _ wf_M_47 _) (fun _ h9 => h9) rfl hin rfl (by decide +kernel) rfl rfl (Nat.le_of_ble_eq_true rfl) d_M_init_109 (fun H locs hP hD hS => ?_)
  have hP : va_P G kl (([(h0, .inr (5, [.int 0, .ref q7, .ref q15, .ref q23, .ref q32, .ref q40, .ref q49, .int 0, .ref q57, .ref q66, .ref q74, .ref q83, .ref q92, .ref q100, .ref q107, .null, .null, .null, .null, .null, .null, .null, .null, .null, .null])), (q7, .inl (c3.1, 9, .inl (fun _ => 0))), (q15, .inl (c3.1, 6, .inl (fun _ => 0))), (q23, .inl (c3.1, 9, .inl (fun _ => 0))), (q32, .inl (c3.2.1, 360, .inl (fun _ => 0))), (q40, .inl (c3.2.1, 40, .inl (fun _ => 0))), (q49, .inl (c3.2.1, 243, .inl (fun _ => 0))), (q57, .inl (c3.1, 9, .inl (fun _ => 0))), (q66, .inl (c3.1, 3584, .inl (fun _ => 0))), (q74, .inl (c3.1, 9, .inl (fun _ => 0))), (q83, .inl (c3.2.1, 3072, .inl (fun _ => 0))), (q92, .inl (c3.2.1, 512, .inl (fun _ => 0))), (q100, .inl (c3.2.1, 81, .inl (fun _ => 0))), (q107, .inl (c3.1, 4, .inl (fun _ => 0)))] : va_W)) H := hP
  have hD : va_D (aC h0 sz) (([(h0, .inr (5, [.int 0, .ref q7, .ref q15, .ref q23, .ref q32, .ref q40, .ref q49, .int 0, .ref q57, .ref q66, .ref q74, .ref q83, .ref q92, .ref q100, .ref q107, .null, .null, .null, .null, .null, .null, .null, .null, .null, .null])), (q7, .inl (c3.1, 9, .inl (fun _ => 0))), (q15, .inl (c3.1, 6, .inl (fun _ => 0))), (q23, .inl (c3.1, 9, .inl (fun _ => 0))), (q32, .inl (c3.2.1, 360, .inl (fun _ => 0))), (q40, .inl (c3.2.1, 40, .inl (fun _ => 0))), (q49, .inl (c3.2.1, 243, .inl (fun _ => 0))), (q57, .inl (c3.1, 9, .inl (fun _ => 0))), (q66, .inl (c3.1, 3584, .inl (fun _ => 0))), (q74, .inl (c3.1, 9, .inl (fun _ => 0))), (q83, .inl (c3.2.1, 3072, .inl (fun _ => 0))), (q92, .inl (c3.2.1, 512, .inl (fun _ => 0))), (q100, .inl (c3.2.1, 81, .inl (fun _ => 0))), (q107, .inl (c3.1, 4, .inl (fun _ => 0)))] : va_W)) := hD
  refine lv_aload_n hx hb d_M_init_112 rfl (lv_at hl 0 rfl) ?_
  refine lv_iconst (v := 4) hx hb d_M_init_113 rfl ?_
  refine xn_newa hx hb hT hK hP hD hS hA (N := 4) (by decide) (by decide) (by decide) (by decide) (by decide) d_M_init_114 (fun q114 H hP hD hS => ?_)
  have hP : va_P G kl (([(h0, .inr (5, [.int 0, .ref q7, .ref q15, .ref q23, .ref q32, .ref q40, .ref q49, .int 0, .ref q57, .ref q66, .ref q74, .ref q83, .ref q92, .ref q100, .ref q107, .null, .null, .null, .null, .null, .null, .null, .null, .null, .null])), (q7, .inl (c3.1, 9, .inl (fun _ => 0))), (q15, .inl (c3.1, 6, .inl (fun _ => 0))), (q23, .inl (c3.1, 9, .inl (fun _ => 0))), (q32, .inl (c3.2.1, 360, .inl (fun _ => 0))), (q40, .inl (c3.2.1, 40, .inl (fun _ => 0))), (q49, .inl (c3.2.1, 243, .inl (fun _ => 0))), (q57, .inl (c3.1, 9, .inl (fun _ => 0))), (q66, .inl (c3.1, 3584, .inl (fun _ => 0))), (q74, .inl (c3.1, 9, .inl (fun _ => 0))), (q83, .inl (c3.2.1, 3072, .inl (fun _ => 0))), (q92, .inl (c3.2.1, 512, .inl (fun _ => 0))), (q100, .inl (c3.2.1, 81, .inl (fun _ => 0))), (q107, .inl (c3.1, 4, .inl (fun _ => 0))), (q114, .inl (c3.1, 4, .inl (fun _ => 0)))] : va_W)) H := hP
  have hD : va_D (aC h0 sz) (([(h0, .inr (5, [.int 0, .ref q7, .ref q15, .ref q23, .ref q32, .ref q40, .ref q49, .int 0, .ref q57, .ref q66, .ref q74, .ref q83, .ref q92, .ref q100, .ref q107, .null, .null, .null, .null, .null, .null, .null, .null, .null, .null])), (q7, .inl (c3.1, 9, .inl (fun _ => 0))), (q15, .inl (c3.1, 6, .inl (fun _ => 0))), (q23, .inl (c3.1, 9, .inl (fun _ => 0))), (q32, .inl (c3.2.1, 360, .inl (fun _ => 0))), (q40, .inl (c3.2.1, 40, .inl (fun _ => 0))), (q49, .inl (c3.2.1, 243, .inl (fun _ => 0))), (q57, .inl (c3.1, 9, .inl (fun _ => 0))), (q66, .inl (c3.1, 3584, .inl (fun _ => 0))), (q74, .inl (c3.1, 9, .inl (fun _ => 0))), (q83, .inl (c3.2.1, 3072, .inl (fun _ => 0))), (q92, .inl (c3.2.1, 512, .inl (fun _ => 0))), (q100, .inl (c3.2.1, 81, .inl (fun _ => 0))), (q107, .inl (c3.1, 4, .inl (fun _ => 0))), (q114, .inl (c3.1, 4, .inl (fun _ => 0)))] : va_W)) := hD
  refine va_putF (D := G) (ci := 5) (v := .ref q114) (ty := (.array .int)) (C := RM) (T := TM) (N := 25) hx hb (hT.hts args) inM tyM tkM nmM hown hK hP hD hS 0 rfl rfl 15 (by decide) (hT.1 _ wf_M_50 _) (fun _ h9 => h9) rfl hin rfl (by decide +kernel) rfl rfl (Nat.le_of_ble_eq_true rfl) d_M_init_116 (fun H locs hP hD hS => ?_)
  have hP : va_P G kl (([(h0, .inr (5, [.int 0, .ref q7, .ref q15, .ref q23, .ref q32, .ref q40, .ref q49, .int 0, .ref q57, .ref q66, .ref q74, .ref q83, .ref q92, .ref q100, .ref q107, .ref q114, .null, .null, .null, .null, .null, .null, .null, .null, .null])), (q7, .inl (c3.1, 9, .inl (fun _ => 0))), (q15, .inl (c3.1, 6, .inl (fun _ => 0))), (q23, .inl (c3.1, 9, .inl (fun _ => 0))), (q32, .inl (c3.2.1, 360, .inl (fun _ => 0))), (q40, .inl (c3.2.1, 40, .inl (fun _ => 0))), (q49, .inl (c3.2.1, 243, .inl (fun _ => 0))), (q57, .inl (c3.1, 9, .inl (fun _ => 0))), (q66, .inl (c3.1, 3584, .inl (fun _ => 0))), (q74, .inl (c3.1, 9, .inl (fun _ => 0))), (q83, .inl (c3.2.1, 3072, .inl (fun _ => 0))), (q92, .inl (c3.2.1, 512, .inl (fun _ => 0))), (q100, .inl (c3.2.1, 81, .inl (fun _ => 0))), (q107, .inl (c3.1, 4, .inl (fun _ => 0))), (q114, .inl (c3.1, 4, .inl (fun _ => 0)))] : va_W)) H := hP
  have hD : va_D (aC h0 sz) (([(h0, .inr (5, [.int 0, .ref q7, .ref q15, .ref q23, .ref q32, .ref q40, .ref q49, .int 0, .ref q57, .ref q66, .ref q74, .ref q83, .ref q92, .ref q100, .ref q107, .ref q114, .null, .null, .null, .null, .null, .null, .null, .null, .null])), (q7, .inl (c3.1, 9, .inl (fun _ => 0))), (q15, .inl (c3.1, 6, .inl (fun _ => 0))), (q23, .inl (c3.1, 9, .inl (fun _ => 0))), (q32, .inl (c3.2.1, 360, .inl (fun _ => 0))), (q40, .inl (c3.2.1, 40, .inl (fun _ => 0))), (q49, .inl (c3.2.1, 243, .inl (fun _ => 0))), (q57, .inl (c3.1, 9, .inl (fun _ => 0))), (q66, .inl (c3.1, 3584, .inl (fun _ => 0))), (q74, .inl (c3.1, 9, .inl (fun _ => 0))), (q83, .inl (c3.2.1, 3072, .inl (fun _ => 0))), (q92, .inl (c3.2.1, 512, .inl (fun _ => 0))), (q100, .inl (c3.2.1, 81, .inl (fun _ => 0))), (q107, .inl (c3.1, 4, .inl (fun _ => 0))), (q114, .inl (c3.1, 4, .inl (fun _ => 0)))] : va_W)) := hD
  refine lv_aload_n hx hb d_M_init_119 rfl (lv_at hl 0 rfl) ?_
  refine lv_iconst (v := 4) hx hb d_M_init_120 rfl ?_
  refine xn_newz hx hb hT hK hP hD hS hA (N := 4) (by decide) (by decide) (by decide) (by decide) (by decide) d_M_init_121 (fun q121 H hP hD hS => ?_)
  have hP : va_P G kl (([(h0, .inr (5, [.int 0, .ref q7, .ref q15, .ref q23, .ref q32, .ref q40, .ref q49, .int 0, .ref q57, .ref q66, .ref q74, .ref q83, .ref q92, .ref q100, .ref q107, .ref q114, .null, .null, .null, .null, .null, .null, .null, .null, .null])), (q7, .inl (c3.1, 9, .inl (fun _ => 0))), (q15, .inl (c3.1, 6, .inl (fun _ => 0))), (q23, .inl (c3.1, 9, .inl (fun _ => 0))), (q32, .inl (c3.2.1, 360, .inl (fun _ => 0))), (q40, .inl (c3.2.1, 40, .inl (fun _ => 0))), (q49, .inl (c3.2.1, 243, .inl (fun _ => 0))), (q57, .inl (c3.1, 9, .inl (fun _ => 0))), (q66, .inl (c3.1, 3584, .inl (fun _ => 0))), (q74, .inl (c3.1, 9, .inl (fun _ => 0))), (q83, .inl (c3.2.1, 3072, .inl (fun _ => 0))), (q92, .inl (c3.2.1, 512, .inl (fun _ => 0))), (q100, .inl (c3.2.1, 81, .inl (fun _ => 0))), (q107, .inl (c3.1, 4, .inl (fun _ => 0))), (q114, .inl (c3.1, 4, .inl (fun _ => 0))), (q121, .inl (c3.2.1, 4, .inl (fun _ => 0)))] : va_W)) H := hP
  have hD : va_D (aC h0 sz) (([(h0, .inr (5, [.int 0, .ref q7, .ref q15, .ref q23, .ref q32, .ref q40, .ref q49, .int 0, .ref q57, .ref q66, .ref q74, .ref q83, .ref q92, .ref q100, .ref q107, .ref q114, .null, .null, .null, .null, .null, .null, .null, .null, .null])), (q7, .inl (c3.1, 9, .inl (fun _ => 0))), (q15, .inl (c3.1, 6, .inl (fun _ => 0))), (q23, .inl (c3.1, 9, .inl (fun _ => 0))), (q32, .inl (c3.2.1, 360, .inl (fun _ => 0))), (q40, .inl (c3.2.1, 40, .inl (fun _ => 0))), (q49, .inl (c3.2.1, 243, .inl (fun _ => 0))), (q57, .inl (c3.1, 9, .inl (fun _ => 0))), (q66, .inl (c3.1, 3584, .inl (fun _ => 0))), (q74, .inl (c3.1, 9, .inl (fun _ => 0))), (q83, .inl (c3.2.1, 3072, .inl (fun _ => 0))), (q92, .inl (c3.2.1, 512, .inl (fun _ => 0))), (q100, .inl (c3.2.1, 81, .inl (fun _ => 0))), (q107, .inl (c3.1, 4, .inl (fun _ => 0))), (q114, .inl (c3.1, 4, .inl (fun _ => 0))), (q121, .inl (c3.2.1, 4, .inl (fun _ => 0)))] : va_W)) := hD
  refine va_putF (D := G) (ci := 5) (v := .ref q121) (ty := (.array .boolean)) (C := RM) (T := TM) (N := 25) hx hb (hT.hts args) inM tyM tkM nmM hown hK hP hD hS 0 rfl rfl 16 (by decide) (hT.1 _ wf_M_53 _) (fun _ h9 => h9) rfl hin rfl (by decide +kernel) rfl rfl (Nat.le_of_ble_eq_true rfl) d_M_init_123 (fun H locs hP hD hS => ?_)
  have hP : va_P G kl (([(h0, .inr (5, [.int 0, .ref q7, .ref q15, .ref q23, .ref q32, .ref q40, .ref q49, .int 0, .ref q57, .ref q66, .ref q74, .ref q83, .ref q92, .ref q100, .ref q107, .ref q114, .ref q121, .null, .null, .null, .null, .null, .null, .null, .null])), (q7, .inl (c3.1, 9, .inl (fun _ => 0))), (q15, .inl (c3.1, 6, .inl (fun _ => 0))), (q23, .inl (c3.1, 9, .inl (fun _ => 0))), (q32, .inl (c3.2.1, 360, .inl (fun _ => 0))), (q40, .inl (c3.2.1, 40, .inl (fun _ => 0))), (q49, .inl (c3.2.1, 243, .inl (fun _ => 0))), (q57, .inl (c3.1, 9, .inl (fun _ => 0))), (q66, .inl (c3.1, 3584, .inl (fun _ => 0))), (q74, .inl (c3.1, 9, .inl (fun _ => 0))), (q83, .inl (c3.2.1, 3072, .inl (fun _ => 0))), (q92, .inl (c3.2.1, 512, .inl (fun _ => 0))), (q100, .inl (c3.2.1, 81, .inl (fun _ => 0))), (q107, .inl (c3.1, 4, .inl (fun _ => 0))), (q114, .inl (c3.1, 4, .inl (fun _ => 0))), (q121, .inl (c3.2.1, 4, .inl (fun _ => 0)))] : va_W)) H := hP
  have hD : va_D (aC h0 sz) (([(h0, .inr (5, [.int 0, .ref q7, .ref q15, .ref q23, .ref q32, .ref q40, .ref q49, .int 0, .ref q57, .ref q66, .ref q74, .ref q83, .ref q92, .ref q100, .ref q107, .ref q114, .ref q121, .null, .null, .null, .null, .null, .null, .null, .null])), (q7, .inl (c3.1, 9, .inl (fun _ => 0))), (q15, .inl (c3.1, 6, .inl (fun _ => 0))), (q23, .inl (c3.1, 9, .inl (fun _ => 0))), (q32, .inl (c3.2.1, 360, .inl (fun _ => 0))), (q40, .inl (c3.2.1, 40, .inl (fun _ => 0))), (q49, .inl (c3.2.1, 243, .inl (fun _ => 0))), (q57, .inl (c3.1, 9, .inl (fun _ => 0))), (q66, .inl (c3.1, 3584, .inl (fun _ => 0))), (q74, .inl (c3.1, 9, .inl (fun _ => 0))), (q83, .inl (c3.2.1, 3072, .inl (fun _ => 0))), (q92, .inl (c3.2.1, 512, .inl (fun _ => 0))), (q100, .inl (c3.2.1, 81, .inl (fun _ => 0))), (q107, .inl (c3.1, 4, .inl (fun _ => 0))), (q114, .inl (c3.1, 4, .inl (fun _ => 0))), (q121, .inl (c3.2.1, 4, .inl (fun _ => 0)))] : va_W)) := hD
  refine lv_aload_n hx hb d_M_init_126 rfl (lv_at hl 0 rfl) ?_
  refine lv_sipush (v := 144) hx hb d_M_init_127 rfl ?_
  refine xn_newz hx hb hT hK hP hD hS hA (N := 144) (by decide) (by decide) (by decide) (by decide) (by decide) d_M_init_130 (fun q130 H hP hD hS => ?_)
  have hP : va_P G kl (([(h0, .inr (5, [.int 0, .ref q7, .ref q15, .ref q23, .ref q32, .ref q40, .ref q49, .int 0, .ref q57, .ref q66, .ref q74, .ref q83, .ref q92, .ref q100, .ref q107, .ref q114, .ref q121, .null, .null, .null, .null, .null, .null, .null, .null])), (q7, .inl (c3.1, 9, .inl (fun _ => 0))), (q15, .inl (c3.1, 6, .inl (fun _ => 0))), (q23, .inl (c3.1, 9, .inl (fun _ => 0))), (q32, .inl (c3.2.1, 360, .inl (fun _ => 0))), (q40, .inl (c3.2.1, 40, .inl (fun _ => 0))), (q49, .inl (c3.2.1, 243, .inl (fun _ => 0))), (q57, .inl (c3.1, 9, .inl (fun _ => 0))), (q66, .inl (c3.1, 3584, .inl (fun _ => 0))), (q74, .inl (c3.1, 9, .inl (fun _ => 0))), (q83, .inl (c3.2.1, 3072, .inl (fun _ => 0))), (q92, .inl (c3.2.1, 512, .inl (fun _ => 0))), (q100, .inl (c3.2.1, 81, .inl (fun _ => 0))), (q107, .inl (c3.1, 4, .inl (fun _ => 0))), (q114, .inl (c3.1, 4, .inl (fun _ => 0))), (q121, .inl (c3.2.1, 4, .inl (fun _ => 0))), (q130, .inl (c3.2.1, 144, .inl (fun _ => 0)))] : va_W)) H := hP
  have hD : va_D (aC h0 sz) (([(h0, .inr (5, [.int 0, .ref q7, .ref q15, .ref q23, .ref q32, .ref q40, .ref q49, .int 0, .ref q57, .ref q66, .ref q74, .ref q83, .ref q92, .ref q100, .ref q107, .ref q114, .ref q121, .null, .null, .null, .null, .null, .null, .null, .null])), (q7, .inl (c3.1, 9, .inl (fun _ => 0))), (q15, .inl (c3.1, 6, .inl (fun _ => 0))), (q23, .inl (c3.1, 9, .inl (fun _ => 0))), (q32, .inl (c3.2.1, 360, .inl (fun _ => 0))), (q40, .inl (c3.2.1, 40, .inl (fun _ => 0))), (q49, .inl (c3.2.1, 243, .inl (fun _ => 0))), (q57, .inl (c3.1, 9, .inl (fun _ => 0))), (q66, .inl (c3.1, 3584, .inl (fun _ => 0))), (q74, .inl (c3.1, 9, .inl (fun _ => 0))), (q83, .inl (c3.2.1, 3072, .inl (fun _ => 0))), (q92, .inl (c3.2.1, 512, .inl (fun _ => 0))), (q100, .inl (c3.2.1, 81, .inl (fun _ => 0))), (q107, .inl (c3.1, 4, .inl (fun _ => 0))), (q114, .inl (c3.1, 4, .inl (fun _ => 0))), (q121, .inl (c3.2.1, 4, .inl (fun _ => 0))), (q130, .inl (c3.2.1, 144, .inl (fun _ => 0)))] : va_W)) := hD
  refine va_putF (D := G) (ci := 5) (v := .ref q130) (ty := (.array .boolean)) (C := RM) (T := TM) (N := 25) hx hb (hT.hts args) inM tyM tkM nmM hown hK hP hD hS 0 rfl rfl 17 (by decide) (hT.1 _ wf_M_56 _) (fun _ h9 => h9) rfl hin rfl (by decide +kernel) rfl rfl (Nat.le_of_ble_eq_true rfl) d_M_init_132 (fun H locs hP hD hS => ?_)
  have hP : va_P G kl (([(h0, .inr (5, [.int 0, .ref q7, .ref q15, .ref q23, .ref q32, .ref q40, .ref q49, .int 0, .ref q57, .ref q66, .ref q74, .ref q83, .ref q92, .ref q100, .ref q107, .ref q114, .ref q121, .ref q130, .null, .null, .null, .null, .null, .null, .null])), (q7, .inl (c3.1, 9, .inl (fun _ => 0))), (q15, .inl (c3.1, 6, .inl (fun _ => 0))), (q23, .inl (c3.1, 9, .inl (fun _ => 0))), (q32, .inl (c3.2.1, 360, .inl (fun _ => 0))), (q40, .inl (c3.2.1, 40, .inl (fun _ => 0))), (q49, .inl (c3.2.1, 243, .inl (fun _ => 0))), (q57, .inl (c3.1, 9, .inl (fun _ => 0))), (q66, .inl (c3.1, 3584, .inl (fun _ => 0))), (q74, .inl (c3.1, 9, .inl (fun _ => 0))), (q83, .inl (c3.2.1, 3072, .inl (fun _ => 0))), (q92, .inl (c3.2.1, 512, .inl (fun _ => 0))), (q100, .inl (c3.2.1, 81, .inl (fun _ => 0))), (q107, .inl (c3.1, 4, .inl (fun _ => 0))), (q114, .inl (c3.1, 4, .inl (fun _ => 0))), (q121, .inl (c3.2.1, 4, .inl (fun _ => 0))), (q130, .inl (c3.2.1, 144, .inl (fun _ => 0)))] : va_W)) H := hP
  have hD : va_D (aC h0 sz) (([(h0, .inr (5, [.int 0, .ref q7, .ref q15, .ref q23, .ref q32, .ref q40, .ref q49, .int 0, .ref q57, .ref q66, .ref q74, .ref q83, .ref q92, .ref q100, .ref q107, .ref q114, .ref q121, .ref q130, .null, .null, .null, .null, .null, .null, .null])), (q7, .inl (c3.1, 9, .inl (fun _ => 0))), (q15, .inl (c3.1, 6, .inl (fun _ => 0))), (q23, .inl (c3.1, 9, .inl (fun _ => 0))), (q32, .inl (c3.2.1, 360, .inl (fun _ => 0))), (q40, .inl (c3.2.1, 40, .inl (fun _ => 0))), (q49, .inl (c3.2.1, 243, .inl (fun _ => 0))), (q57, .inl (c3.1, 9, .inl (fun _ => 0))), (q66, .inl (c3.1, 3584, .inl (fun _ => 0))), (q74, .inl (c3.1, 9, .inl (fun _ => 0))), (q83, .inl (c3.2.1, 3072, .inl (fun _ => 0))), (q92, .inl (c3.2.1, 512, .inl (fun _ => 0))), (q100, .inl (c3.2.1, 81, .inl (fun _ => 0))), (q107, .inl (c3.1, 4, .inl (fun _ => 0))), (q114, .inl (c3.1, 4, .inl (fun _ => 0))), (q121, .inl (c3.2.1, 4, .inl (fun _ => 0))), (q130, .inl (c3.2.1, 144, .inl (fun _ => 0)))] : va_W)) := hD
  refine lv_aload_n hx hb d_M_init_135 rfl (lv_at hl 0 rfl) ?_
  refine lv_sipush (v := 864) hx hb d_M_init_136 rfl ?_
  refine xn_newa hx hb hT hK hP hD hS hA (N := 864) (by decide) (by decide) (by decide) (by decide) (by decide) d_M_init_139 (fun q139 H hP hD hS => ?_)
  have hP : va_P G kl (([(h0, .inr (5, [.int 0, .ref q7, .ref q15, .ref q23, .ref q32, .ref q40, .ref q49, .int 0, .ref q57, .ref q66, .ref q74, .ref q83, .ref q92, .ref q100, .ref q107, .ref q114, .ref q121, .ref q130, .null, .null, .null, .null, .null, .null, .null])), (q7, .inl (c3.1, 9, .inl (fun _ => 0))), (q15, .inl (c3.1, 6, .inl (fun _ => 0))), (q23, .inl (c3.1, 9, .inl (fun _ => 0))), (q32, .inl (c3.2.1, 360, .inl (fun _ => 0))), (q40, .inl (c3.2.1, 40, .inl (fun _ => 0))), (q49, .inl (c3.2.1, 243, .inl (fun _ => 0))), (q57, .inl (c3.1, 9, .inl (fun _ => 0))), (q66, .inl (c3.1, 3584, .inl (fun _ => 0))), (q74, .inl (c3.1, 9, .inl (fun _ => 0))), (q83, .inl (c3.2.1, 3072, .inl (fun _ => 0))), (q92, .inl (c3.2.1, 512, .inl (fun _ => 0))), (q100, .inl (c3.2.1, 81, .inl (fun _ => 0))), (q107, .inl (c3.1, 4, .inl (fun _ => 0))), (q114, .inl (c3.1, 4, .inl (fun _ => 0))), (q121, .inl (c3.2.1, 4, .inl (fun _ => 0))), (q130, .inl (c3.2.1, 144, .inl (fun _ => 0))), (q139, .inl (c3.1, 864, .inl (fun _ => 0)))] : va_W)) H := hP
  have hD : va_D (aC h0 sz) (([(h0, .inr (5, [.int 0, .ref q7, .ref q15, .ref q23, .ref q32, .ref q40, .ref q49, .int 0, .ref q57, .ref q66, .ref q74, .ref q83, .ref q92, .ref q100, .ref q107, .ref q114, .ref q121, .ref q130, .null, .null, .null, .null, .null, .null, .null])), (q7, .inl (c3.1, 9, .inl (fun _ => 0))), (q15, .inl (c3.1, 6, .inl (fun _ => 0))), (q23, .inl (c3.1, 9, .inl (fun _ => 0))), (q32, .inl (c3.2.1, 360, .inl (fun _ => 0))), (q40, .inl (c3.2.1, 40, .inl (fun _ => 0))), (q49, .inl (c3.2.1, 243, .inl (fun _ => 0))), (q57, .inl (c3.1, 9, .inl (fun _ => 0))), (q66, .inl (c3.1, 3584, .inl (fun _ => 0))), (q74, .inl (c3.1, 9, .inl (fun _ => 0))), (q83, .inl (c3.2.1, 3072, .inl (fun _ => 0))), (q92, .inl (c3.2.1, 512, .inl (fun _ => 0))), (q100, .inl (c3.2.1, 81, .inl (fun _ => 0))), (q107, .inl (c3.1, 4, .inl (fun _ => 0))), (q114, .inl (c3.1, 4, .inl (fun _ => 0))), (q121, .inl (c3.2.1, 4, .inl (fun _ => 0))), (q130, .inl (c3.2.1, 144, .inl (fun _ => 0))), (q139, .inl (c3.1, 864, .inl (fun _ => 0)))] : va_W)) := hD
  refine va_putF (D := G) (ci := 5) (v := .ref q139) (ty := (.array .int)) (C := RM) (T := TM) (N := 25) hx hb (hT.hts args) inM tyM tkM nmM hown hK hP hD hS 0 rfl rfl 18 (by decide) (hT.1 _ wf_M_59 _) (fun _ h9 => h9) rfl hin rfl (by decide +kernel) rfl rfl (Nat.le_of_ble_eq_true rfl) d_M_init_141 (fun H locs hP hD hS => ?_)
  have hP : va_P G kl (([(h0, .inr (5, [.int 0, .ref q7, .ref q15, .ref q23, .ref q32, .ref q40, .ref q49, .int 0, .ref q57, .ref q66, .ref q74, .ref q83, .ref q92, .ref q100, .ref q107, .ref q114, .ref q121, .ref q130, .ref q139, .null, .null, .null, .null, .null, .null])), (q7, .inl (c3.1, 9, .inl (fun _ => 0))), (q15, .inl (c3.1, 6, .inl (fun _ => 0))), (q23, .inl (c3.1, 9, .inl (fun _ => 0))), (q32, .inl (c3.2.1, 360, .inl (fun _ => 0))), (q40, .inl (c3.2.1, 40, .inl (fun _ => 0))), (q49, .inl (c3.2.1, 243, .inl (fun _ => 0))), (q57, .inl (c3.1, 9, .inl (fun _ => 0))), (q66, .inl (c3.1, 3584, .inl (fun _ => 0))), (q74, .inl (c3.1, 9, .inl (fun _ => 0))), (q83, .inl (c3.2.1, 3072, .inl (fun _ => 0))), (q92, .inl (c3.2.1, 512, .inl (fun _ => 0))), (q100, .inl (c3.2.1, 81, .inl (fun _ => 0))), (q107, .inl (c3.1, 4, .inl (fun _ => 0))), (q114, .inl (c3.1, 4, .inl (fun _ => 0))), (q121, .inl (c3.2.1, 4, .inl (fun _ => 0))), (q130, .inl (c3.2.1, 144, .inl (fun _ => 0))), (q139, .inl (c3.1, 864, .inl (fun _ => 0)))] : va_W)) H := hP
  have hD : va_D (aC h0 sz) (([(h0, .inr (5, [.int 0, .ref q7, .ref q15, .ref q23, .ref q32, .ref q40, .ref q49, .int 0, .ref q57, .ref q66, .ref q74, .ref q83, .ref q92, .ref q100, .ref q107, .ref q114, .ref q121, .ref q130, .ref q139, .null, .null, .null, .null, .null, .null])), (q7, .inl (c3.1, 9, .inl (fun _ => 0))), (q15, .inl (c3.1, 6, .inl (fun _ => 0))), (q23, .inl (c3.1, 9, .inl (fun _ => 0))), (q32, .inl (c3.2.1, 360, .inl (fun _ => 0))), (q40, .inl (c3.2.1, 40, .inl (fun _ => 0))), (q49, .inl (c3.2.1, 243, .inl (fun _ => 0))), (q57, .inl (c3.1, 9, .inl (fun _ => 0))), (q66, .inl (c3.1, 3584, .inl (fun _ => 0))), (q74, .inl (c3.1, 9, .inl (fun _ => 0))), (q83, .inl (c3.2.1, 3072, .inl (fun _ => 0))), (q92, .inl (c3.2.1, 512, .inl (fun _ => 0))), (q100, .inl (c3.2.1, 81, .inl (fun _ => 0))), (q107, .inl (c3.1, 4, .inl (fun _ => 0))), (q114, .inl (c3.1, 4, .inl (fun _ => 0))), (q121, .inl (c3.2.1, 4, .inl (fun _ => 0))), (q130, .inl (c3.2.1, 144, .inl (fun _ => 0))), (q139, .inl (c3.1, 864, .inl (fun _ => 0)))] : va_W)) := hD
  refine lv_aload_n hx hb d_M_init_144 rfl (lv_at hl 0 rfl) ?_
  refine lv_sipush (v := 864) hx hb d_M_init_145 rfl ?_
  refine xn_newa hx hb hT hK hP hD hS hA (N := 864) (by decide) (by decide) (by decide) (by decide) (by decide) d_M_init_148 (fun q148 H hP hD hS => ?_)
  have hP : va_P G kl (([(h0, .inr (5, [.int 0, .ref q7, .ref q15, .ref q23, .ref q32, .ref q40, .ref q49, .int 0, .ref q57, .ref q66, .ref q74, .ref q83, .ref q92, .ref q100, .ref q107, .ref q114, .ref q121, .ref q130, .ref q139, .null, .null, .null, .null, .null, .null])), (q7, .inl (c3.1, 9, .inl (fun _ => 0))), (q15, .inl (c3.1, 6, .inl (fun _ => 0))), (q23, .inl (c3.1, 9, .inl (fun _ => 0))), (q32, .inl (c3.2.1, 360, .inl (fun _ => 0))), (q40, .inl (c3.2.1, 40, .inl (fun _ => 0))), (q49, .inl (c3.2.1, 243, .inl (fun _ => 0))), (q57, .inl (c3.1, 9, .inl (fun _ => 0))), (q66, .inl (c3.1, 3584, .inl (fun _ => 0))), (q74, .inl (c3.1, 9, .inl (fun _ => 0))), (q83, .inl (c3.2.1, 3072, .inl (fun _ => 0))), (q92, .inl (c3.2.1, 512, .inl (fun _ => 0))), (q100, .inl (c3.2.1, 81, .inl (fun _ => 0))), (q107, .inl (c3.1, 4, .inl (fun _ => 0))), (q114, .inl (c3.1, 4, .inl (fun _ => 0))), (q121, .inl (c3.2.1, 4, .inl (fun _ => 0))), (q130, .inl (c3.2.1, 144, .inl (fun _ => 0))), (q139, .inl (c3.1, 864, .inl (fun _ => 0))), (q148, .inl (c3.1, 864, .inl (fun _ => 0)))] : va_W)) H := hP
  have hD : va_D (aC h0 sz) (([(h0, .inr (5, [.int 0, .ref q7, .ref q15, .ref q23, .ref q32, .ref q40, .ref q49, .int 0, .ref q57, .ref q66, .ref q74, .ref q83, .ref q92, .ref q100, .ref q107, .ref q114, .ref q121, .ref q130, .ref q139, .null, .null, .null, .null, .null, .null])), (q7, .inl (c3.1, 9, .inl (fun _ => 0))), (q15, .inl (c3.1, 6, .inl (fun _ => 0))), (q23, .inl (c3.1, 9, .inl (fun _ => 0))), (q32, .inl (c3.2.1, 360, .inl (fun _ => 0))), (q40, .inl (c3.2.1, 40, .inl (fun _ => 0))), (q49, .inl (c3.2.1, 243, .inl (fun _ => 0))), (q57, .inl (c3.1, 9, .inl (fun _ => 0))), (q66, .inl (c3.1, 3584, .inl (fun _ => 0))), (q74, .inl (c3.1, 9, .inl (fun _ => 0))), (q83, .inl (c3.2.1, 3072, .inl (fun _ => 0))), (q92, .inl (c3.2.1, 512, .inl (fun _ => 0))), (q100, .inl (c3.2.1, 81, .inl (fun _ => 0))), (q107, .inl (c3.1, 4, .inl (fun _ => 0))), (q114, .inl (c3.1, 4, .inl (fun _ => 0))), (q121, .inl (c3.2.1, 4, .inl (fun _ => 0))), (q130, .inl (c3.2.1, 144, .inl (fun _ => 0))), (q139, .inl (c3.1, 864, .inl (fun _ => 0))), (q148, .inl (c3.1, 864, .inl (fun _ => 0)))] : va_W)) := hD
  refine va_putF (D := G) (ci := 5) (v := .ref q148) (ty := (.array .int)) (C := RM) (T := TM) (N := 25) hx hb (hT.hts args) inM tyM tkM nmM hown hK hP hD hS 0 rfl rfl 19 (by decide) (hT.1 _ wf_M_62 _) (fun _ h9 => h9) rfl hin rfl (by decide +kernel) rfl rfl (Nat.le_of_ble_eq_true rfl) d_M_init_150 (fun H locs hP hD hS => ?_)
  have hP : va_P G kl (([(h0, .inr (5, [.int 0, .ref q7, .ref q15, .ref q23, .ref q32, .ref q40, .ref q49, .int 0, .ref q57, .ref q66, .ref q74, .ref q83, .ref q92, .ref q100, .ref q107, .ref q114, .ref q121, .ref q130, .ref q139, .ref q148, .null, .null, .null, .null, .null])), (q7, .inl (c3.1, 9, .inl (fun _ => 0))), (q15, .inl (c3.1, 6, .inl (fun _ => 0))), (q23, .inl (c3.1, 9, .inl (fun _ => 0))), (q32, .inl (c3.2.1, 360, .inl (fun _ => 0))), (q40, .inl (c3.2.1, 40, .inl (fun _ => 0))), (q49, .inl (c3.2.1, 243, .inl (fun _ => 0))), (q57, .inl (c3.1, 9, .inl (fun _ => 0))), (q66, .inl (c3.1, 3584, .inl (fun _ => 0))), (q74, .inl (c3.1, 9, .inl (fun _ => 0))), (q83, .inl (c3.2.1, 3072, .inl (fun _ => 0))), (q92, .inl (c3.2.1, 512, .inl (fun _ => 0))), (q100, .inl (c3.2.1, 81, .inl (fun _ => 0))), (q107, .inl (c3.1, 4, .inl (fun _ => 0))), (q114, .inl (c3.1, 4, .inl (fun _ => 0))), (q121, .inl (c3.2.1, 4, .inl (fun _ => 0))), (q130, .inl (c3.2.1, 144, .inl (fun _ => 0))), (q139, .inl (c3.1, 864, .inl (fun _ => 0))), (q148, .inl (c3.1, 864, .inl (fun _ => 0)))] : va_W)) H := hP
  have hD : va_D (aC h0 sz) (([(h0, .inr (5, [.int 0, .ref q7, .ref q15, .ref q23, .ref q32, .ref q40, .ref q49, .int 0, .ref q57, .ref q66, .ref q74, .ref q83, .ref q92, .ref q100, .ref q107, .ref q114, .ref q121, .ref q130, .ref q139, .ref q148, .null, .null, .null, .null, .null])), (q7, .inl (c3.1, 9, .inl (fun _ => 0))), (q15, .inl (c3.1, 6, .inl (fun _ => 0))), (q23, .inl (c3.1, 9, .inl (fun _ => 0))), (q32, .inl (c3.2.1, 360, .inl (fun _ => 0))), (q40, .inl (c3.2.1, 40, .inl (fun _ => 0))), (q49, .inl (c3.2.1, 243, .inl (fun _ => 0))), (q57, .inl (c3.1, 9, .inl (fun _ => 0))), (q66, .inl (c3.1, 3584, .inl (fun _ => 0))), (q74, .inl (c3.1, 9, .inl (fun _ => 0))), (q83, .inl (c3.2.1, 3072, .inl (fun _ => 0))), (q92, .inl (c3.2.1, 512, .inl (fun _ => 0))), (q100, .inl (c3.2.1, 81, .inl (fun _ => 0))), (q107, .inl (c3.1, 4, .inl (fun _ => 0))), (q114, .inl (c3.1, 4, .inl (fun _ => 0))), (q121, .inl (c3.2.1, 4, .inl (fun _ => 0))), (q130, .inl (c3.2.1, 144, .inl (fun _ => 0))), (q139, .inl (c3.1, 864, .inl (fun _ => 0))), (q148, .inl (c3.1, 864, .inl (fun _ => 0)))] : va_W)) := hD
  refine lv_aload_n hx hb d_M_init_153 rfl (lv_at hl 0 rfl) ?_
  refine lv_bipush (v := 10) hx hb d_M_init_154 rfl ?_
  refine xn_newa hx hb hT hK hP hD hS hA (N := 10) (by decide) (by decide) (by decide) (by decide) (by decide) d_M_init_156 (fun q156 H hP hD hS => ?_)
  have hP : va_P G kl (([(h0, .inr (5, [.int 0, .ref q7, .ref q15, .ref q23, .ref q32, .ref q40, .ref q49, .int 0, .ref q57, .ref q66, .ref q74, .ref q83, .ref q92, .ref q100, .ref q107, .ref q114, .ref q121, .ref q130, .ref q139, .ref q148, .null, .null, .null, .null, .null])), (q7, .inl (c3.1, 9, .inl (fun _ => 0))), (q15, .inl (c3.1, 6, .inl (fun _ => 0))), (q23, .inl (c3.1, 9, .inl (fun _ => 0))), (q32, .inl (c3.2.1, 360, .inl (fun _ => 0))), (q40, .inl (c3.2.1, 40, .inl (fun _ => 0))), (q49, .inl (c3.2.1, 243, .inl (fun _ => 0))), (q57, .inl (c3.1, 9, .inl (fun _ => 0))), (q66, .inl (c3.1, 3584, .inl (fun _ => 0))), (q74, .inl (c3.1, 9, .inl (fun _ => 0))), (q83, .inl (c3.2.1, 3072, .inl (fun _ => 0))), (q92, .inl (c3.2.1, 512, .inl (fun _ => 0))), (q100, .inl (c3.2.1, 81, .inl (fun _ => 0))), (q107, .inl (c3.1, 4, .inl (fun _ => 0))), (q114, .inl (c3.1, 4, .inl (fun _ => 0))), (q121, .inl (c3.2.1, 4, .inl (fun _ => 0))), (q130, .inl (c3.2.1, 144, .inl (fun _ => 0))), (q139, .inl (c3.1, 864, .inl (fun _ => 0))), (q148, .inl (c3.1, 864, .inl (fun _ => 0))), (q156, .inl (c3.1, 10, .inl (fun _ => 0)))] : va_W)) H := hP
  have hD : va_D (aC h0 sz) (([(h0, .inr (5, [.int 0, .ref q7, .ref q15, .ref q23, .ref q32, .ref q40, .ref q49, .int 0, .ref q57, .ref q66, .ref q74, .ref q83, .ref q92, .ref q100, .ref q107, .ref q114, .ref q121, .ref q130, .ref q139, .ref q148, .null, .null, .null, .null, .null])), (q7, .inl (c3.1, 9, .inl (fun _ => 0))), (q15, .inl (c3.1, 6, .inl (fun _ => 0))), (q23, .inl (c3.1, 9, .inl (fun _ => 0))), (q32, .inl (c3.2.1, 360, .inl (fun _ => 0))), (q40, .inl (c3.2.1, 40, .inl (fun _ => 0))), (q49, .inl (c3.2.1, 243, .inl (fun _ => 0))), (q57, .inl (c3.1, 9, .inl (fun _ => 0))), (q66, .inl (c3.1, 3584, .inl (fun _ => 0))), (q74, .inl (c3.1, 9, .inl (fun _ => 0))), (q83, .inl (c3.2.1, 3072, .inl (fun _ => 0))), (q92, .inl (c3.2.1, 512, .inl (fun _ => 0))), (q100, .inl (c3.2.1, 81, .inl (fun _ => 0))), (q107, .inl (c3.1, 4, .inl (fun _ => 0))), (q114, .inl (c3.1, 4, .inl (fun _ => 0))), (q121, .inl (c3.2.1, 4, .inl (fun _ => 0))), (q130, .inl (c3.2.1, 144, .inl (fun _ => 0))), (q139, .inl (c3.1, 864, .inl (fun _ => 0))), (q148, .inl (c3.1, 864, .inl (fun _ => 0))), (q156, .inl (c3.1, 10, .inl (fun _ => 0)))] : va_W)) := hD
  refine va_putF (D := G) (ci := 5) (v := .ref q156) (ty := (.array .int)) (C := RM) (T := TM) (N := 25) hx hb (hT.hts args) inM tyM tkM nmM hown hK hP hD hS 0 rfl rfl 20 (by decide) (hT.1 _ wf_M_65 _) (fun _ h9 => h9) rfl hin rfl (by decide +kernel) rfl rfl (Nat.le_of_ble_eq_true rfl) d_M_init_158 (fun H locs hP hD hS => ?_)
  have hP : va_P G kl (([(h0, .inr (5, [.int 0, .ref q7, .ref q15, .ref q23, .ref q32, .ref q40, .ref q49, .int 0, .ref q57, .ref q66, .ref q74, .ref q83, .ref q92, .ref q100, .ref q107, .ref q114, .ref q121, .ref q130, .ref q139, .ref q148, .ref q156, .null, .null, .null, .null])), (q7, .inl (c3.1, 9, .inl (fun _ => 0))), (q15, .inl (c3.1, 6, .inl (fun _ => 0))), (q23, .inl (c3.1, 9, .inl (fun _ => 0))), (q32, .inl (c3.2.1, 360, .inl (fun _ => 0))), (q40, .inl (c3.2.1, 40, .inl (fun _ => 0))), (q49, .inl (c3.2.1, 243, .inl (fun _ => 0))), (q57, .inl (c3.1, 9, .inl (fun _ => 0))), (q66, .inl (c3.1, 3584, .inl (fun _ => 0))), (q74, .inl (c3.1, 9, .inl (fun _ => 0))), (q83, .inl (c3.2.1, 3072, .inl (fun _ => 0))), (q92, .inl (c3.2.1, 512, .inl (fun _ => 0))), (q100, .inl (c3.2.1, 81, .inl (fun _ => 0))), (q107, .inl (c3.1, 4, .inl (fun _ => 0))), (q114, .inl (c3.1, 4, .inl (fun _ => 0))), (q121, .inl (c3.2.1, 4, .inl (fun _ => 0))), (q130, .inl (c3.2.1, 144, .inl (fun _ => 0))), (q139, .inl (c3.1, 864, .inl (fun _ => 0))), (q148, .inl (c3.1, 864, .inl (fun _ => 0))), (q156, .inl (c3.1, 10, .inl (fun _ => 0)))] : va_W)) H := hP
  have hD : va_D (aC h0 sz) (([(h0, .inr (5, [.int 0, .ref q7, .ref q15, .ref q23, .ref q32, .ref q40, .ref q49, .int 0, .ref q57, .ref q66, .ref q74, .ref q83, .ref q92, .ref q100, .ref q107, .ref q114, .ref q121, .ref q130, .ref q139, .ref q148, .ref q156, .null, .null, .null, .null])), (q7, .inl (c3.1, 9, .inl (fun _ => 0))), (q15, .inl (c3.1, 6, .inl (fun _ => 0))), (q23, .inl (c3.1, 9, .inl (fun _ => 0))), (q32, .inl (c3.2.1, 360, .inl (fun _ => 0))), (q40, .inl (c3.2.1, 40, .inl (fun _ => 0))), (q49, .inl (c3.2.1, 243, .inl (fun _ => 0))), (q57, .inl (c3.1, 9, .inl (fun _ => 0))), (q66, .inl (c3.1, 3584, .inl (fun _ => 0))), (q74, .inl (c3.1, 9, .inl (fun _ => 0))), (q83, .inl (c3.2.1, 3072, .inl (fun _ => 0))), (q92, .inl (c3.2.1, 512, .inl (fun _ => 0))), (q100, .inl (c3.2.1, 81, .inl (fun _ => 0))), (q107, .inl (c3.1, 4, .inl (fun _ => 0))), (q114, .inl (c3.1, 4, .inl (fun _ => 0))), (q121, .inl (c3.2.1, 4, .inl (fun _ => 0))), (q130, .inl (c3.2.1, 144, .inl (fun _ => 0))), (q139, .inl (c3.1, 864, .inl (fun _ => 0))), (q148, .inl (c3.1, 864, .inl (fun _ => 0))), (q156, .inl (c3.1, 10, .inl (fun _ => 0)))] : va_W)) := hD
  refine lv_aload_n hx hb d_M_init_161 rfl (lv_at hl 0 rfl) ?_
  refine lv_bipush (v := 90) hx hb d_M_init_162 rfl ?_
  refine xn_newz hx hb hT hK hP hD hS hA (N := 90) (by decide) (by decide) (by decide) (by decide) (by decide) d_M_init_164 (fun q164 H hP hD hS => ?_)
  have hP : va_P G kl (([(h0, .inr (5, [.int 0, .ref q7, .ref q15, .ref q23, .ref q32, .ref q40, .ref q49, .int 0, .ref q57, .ref q66, .ref q74, .ref q83, .ref q92, .ref q100, .ref q107, .ref q114, .ref q121, .ref q130, .ref q139, .ref q148, .ref q156, .null, .null, .null, .null])), (q7, .inl (c3.1, 9, .inl (fun _ => 0))), (q15, .inl (c3.1, 6, .inl (fun _ => 0))), (q23, .inl (c3.1, 9, .inl (fun _ => 0))), (q32, .inl (c3.2.1, 360, .inl (fun _ => 0))), (q40, .inl (c3.2.1, 40, .inl (fun _ => 0))), (q49, .inl (c3.2.1, 243, .inl (fun _ => 0))), (q57, .inl (c3.1, 9, .inl (fun _ => 0))), (q66, .inl (c3.1, 3584, .inl (fun _ => 0))), (q74, .inl (c3.1, 9, .inl (fun _ => 0))), (q83, .inl (c3.2.1, 3072, .inl (fun _ => 0))), (q92, .inl (c3.2.1, 512, .inl (fun _ => 0))), (q100, .inl (c3.2.1, 81, .inl (fun _ => 0))), (q107, .inl (c3.1, 4, .inl (fun _ => 0))), (q114, .inl (c3.1, 4, .inl (fun _ => 0))), (q121, .inl (c3.2.1, 4, .inl (fun _ => 0))), (q130, .inl (c3.2.1, 144, .inl (fun _ => 0))), (q139, .inl (c3.1, 864, .inl (fun _ => 0))), (q148, .inl (c3.1, 864, .inl (fun _ => 0))), (q156, .inl (c3.1, 10, .inl (fun _ => 0))), (q164, .inl (c3.2.1, 90, .inl (fun _ => 0)))] : va_W)) H := hP
  have hD : va_D (aC h0 sz) (([(h0, .inr (5, [.int 0, .ref q7, .ref q15, .ref q23, .ref q32, .ref q40, .ref q49, .int 0, .ref q57, .ref q66, .ref q74, .ref q83, .ref q92, .ref q100, .ref q107, .ref q114, .ref q121, .ref q130, .ref q139, .ref q148, .ref q156, .null, .null, .null, .null])), (q7, .inl (c3.1, 9, .inl (fun _ => 0))), (q15, .inl (c3.1, 6, .inl (fun _ => 0))), (q23, .inl (c3.1, 9, .inl (fun _ => 0))), (q32, .inl (c3.2.1, 360, .inl (fun _ => 0))), (q40, .inl (c3.2.1, 40, .inl (fun _ => 0))), (q49, .inl (c3.2.1, 243, .inl (fun _ => 0))), (q57, .inl (c3.1, 9, .inl (fun _ => 0))), (q66, .inl (c3.1, 3584, .inl (fun _ => 0))), (q74, .inl (c3.1, 9, .inl (fun _ => 0))), (q83, .inl (c3.2.1, 3072, .inl (fun _ => 0))), (q92, .inl (c3.2.1, 512, .inl (fun _ => 0))), (q100, .inl (c3.2.1, 81, .inl (fun _ => 0))), (q107, .inl (c3.1, 4, .inl (fun _ => 0))), (q114, .inl (c3.1, 4, .inl (fun _ => 0))), (q121, .inl (c3.2.1, 4, .inl (fun _ => 0))), (q130, .inl (c3.2.1, 144, .inl (fun _ => 0))), (q139, .inl (c3.1, 864, .inl (fun _ => 0))), (q148, .inl (c3.1, 864, .inl (fun _ => 0))), (q156, .inl (c3.1, 10, .inl (fun _ => 0))), (q164, .inl (c3.2.1, 90, .inl (fun _ => 0)))] : va_W)) := hD
  refine va_putF (D := G) (ci := 5) (v := .ref q164) (ty := (.array .boolean)) (C := RM) (T := TM) (N := 25) hx hb (hT.hts args) inM tyM tkM nmM hown hK hP hD hS 0 rfl rfl 21 (by decide) (hT.1 _ wf_M_68 _) (fun _ h9 => h9) rfl hin rfl (by decide +kernel) rfl rfl (Nat.le_of_ble_eq_true rfl) d_M_init_166 (fun H locs hP hD hS => ?_)
  have hP : va_P G kl (([(h0, .inr (5, [.int 0, .ref q7, .ref q15, .ref q23, .ref q32, .ref q40, .ref q49, .int 0, .ref q57, .ref q66, .ref q74, .ref q83, .ref q92, .ref q100, .ref q107, .ref q114, .ref q121, .ref q130, .ref q139, .ref q148, .ref q156, .ref q164, .null, .null, .null])), (q7, .inl (c3.1, 9, .inl (fun _ => 0))), (q15, .inl (c3.1, 6, .inl (fun _ => 0))), (q23, .inl (c3.1, 9, .inl (fun _ => 0))), (q32, .inl (c3.2.1, 360, .inl (fun _ => 0))), (q40, .inl (c3.2.1, 40, .inl (fun _ => 0))), (q49, .inl (c3.2.1, 243, .inl (fun _ => 0))), (q57, .inl (c3.1, 9, .inl (fun _ => 0))), (q66, .inl (c3.1, 3584, .inl (fun _ => 0))), (q74, .inl (c3.1, 9, .inl (fun _ => 0))), (q83, .inl (c3.2.1, 3072, .inl (fun _ => 0))), (q92, .inl (c3.2.1, 512, .inl (fun _ => 0))), (q100, .inl (c3.2.1, 81, .inl (fun _ => 0))), (q107, .inl (c3.1, 4, .inl (fun _ => 0))), (q114, .inl (c3.1, 4, .inl (fun _ => 0))), (q121, .inl (c3.2.1, 4, .inl (fun _ => 0))), (q130, .inl (c3.2.1, 144, .inl (fun _ => 0))), (q139, .inl (c3.1, 864, .inl (fun _ => 0))), (q148, .inl (c3.1, 864, .inl (fun _ => 0))), (q156, .inl (c3.1, 10, .inl (fun _ => 0))), (q164, .inl (c3.2.1, 90, .inl (fun _ => 0)))] : va_W)) H := hP
  have hD : va_D (aC h0 sz) (([(h0, .inr (5, [.int 0, .ref q7, .ref q15, .ref q23, .ref q32, .ref q40, .ref q49, .int 0, .ref q57, .ref q66, .ref q74, .ref q83, .ref q92, .ref q100, .ref q107, .ref q114, .ref q121, .ref q130, .ref q139, .ref q148, .ref q156, .ref q164, .null, .null, .null])), (q7, .inl (c3.1, 9, .inl (fun _ => 0))), (q15, .inl (c3.1, 6, .inl (fun _ => 0))), (q23, .inl (c3.1, 9, .inl (fun _ => 0))), (q32, .inl (c3.2.1, 360, .inl (fun _ => 0))), (q40, .inl (c3.2.1, 40, .inl (fun _ => 0))), (q49, .inl (c3.2.1, 243, .inl (fun _ => 0))), (q57, .inl (c3.1, 9, .inl (fun _ => 0))), (q66, .inl (c3.1, 3584, .inl (fun _ => 0))), (q74, .inl (c3.1, 9, .inl (fun _ => 0))), (q83, .inl (c3.2.1, 3072, .inl (fun _ => 0))), (q92, .inl (c3.2.1, 512, .inl (fun _ => 0))), (q100, .inl (c3.2.1, 81, .inl (fun _ => 0))), (q107, .inl (c3.1, 4, .inl (fun _ => 0))), (q114, .inl (c3.1, 4, .inl (fun _ => 0))), (q121, .inl (c3.2.1, 4, .inl (fun _ => 0))), (q130, .inl (c3.2.1, 144, .inl (fun _ => 0))), (q139, .inl (c3.1, 864, .inl (fun _ => 0))), (q148, .inl (c3.1, 864, .inl (fun _ => 0))), (q156, .inl (c3.1, 10, .inl (fun _ => 0))), (q164, .inl (c3.2.1, 90, .inl (fun _ => 0)))] : va_W)) := hD
  refine lv_aload_n hx hb d_M_init_169 rfl (lv_at hl 0 rfl) ?_
  refine lv_sipush (v := 240) hx hb d_M_init_170 rfl ?_
  refine xn_newz hx hb hT hK hP hD hS hA (N := 240) (by decide) (by decide) (by decide) (by decide) (by decide) d_M_init_173 (fun q173 H hP hD hS => ?_)
  have hP : va_P G kl (([(h0, .inr (5, [.int 0, .ref q7, .ref q15, .ref q23, .ref q32, .ref q40, .ref q49, .int 0, .ref q57, .ref q66, .ref q74, .ref q83, .ref q92, .ref q100, .ref q107, .ref q114, .ref q121, .ref q130, .ref q139, .ref q148, .ref q156, .ref q164, .null, .null, .null])), (q7, .inl (c3.1, 9, .inl (fun _ => 0))), (q15, .inl (c3.1, 6, .inl (fun _ => 0))), (q23, .inl (c3.1, 9, .inl (fun _ => 0))), (q32, .inl (c3.2.1, 360, .inl (fun _ => 0))), (q40, .inl (c3.2.1, 40, .inl (fun _ => 0))), (q49, .inl (c3.2.1, 243, .inl (fun _ => 0))), (q57, .inl (c3.1, 9, .inl (fun _ => 0))), (q66, .inl (c3.1, 3584, .inl (fun _ => 0))), (q74, .inl (c3.1, 9, .inl (fun _ => 0))), (q83, .inl (c3.2.1, 3072, .inl (fun _ => 0))), (q92, .inl (c3.2.1, 512, .inl (fun _ => 0))), (q100, .inl (c3.2.1, 81, .inl (fun _ => 0))), (q107, .inl (c3.1, 4, .inl (fun _ => 0))), (q114, .inl (c3.1, 4, .inl (fun _ => 0))), (q121, .inl (c3.2.1, 4, .inl (fun _ => 0))), (q130, .inl (c3.2.1, 144, .inl (fun _ => 0))), (q139, .inl (c3.1, 864, .inl (fun _ => 0))), (q148, .inl (c3.1, 864, .inl (fun _ => 0))), (q156, .inl (c3.1, 10, .inl (fun _ => 0))), (q164, .inl (c3.2.1, 90, .inl (fun _ => 0))), (q173, .inl (c3.2.1, 240, .inl (fun _ => 0)))] : va_W)) H := hP
  have hD : va_D (aC h0 sz) (([(h0, .inr (5, [.int 0, .ref q7, .ref q15, .ref q23, .ref q32, .ref q40, .ref q49, .int 0, .ref q57, .ref q66, .ref q74, .ref q83, .ref q92, .ref q100, .ref q107, .ref q114, .ref q121, .ref q130, .ref q139, .ref q148, .ref q156, .ref q164, .null, .null, .null])), (q7, .inl (c3.1, 9, .inl (fun _ => 0))), (q15, .inl (c3.1, 6, .inl (fun _ => 0))), (q23, .inl (c3.1, 9, .inl (fun _ => 0))), (q32, .inl (c3.2.1, 360, .inl (fun _ => 0))), (q40, .inl (c3.2.1, 40, .inl (fun _ => 0))), (q49, .inl (c3.2.1, 243, .inl (fun _ => 0))), (q57, .inl (c3.1, 9, .inl (fun _ => 0))), (q66, .inl (c3.1, 3584, .inl (fun _ => 0))), (q74, .inl (c3.1, 9, .inl (fun _ => 0))), (q83, .inl (c3.2.1, 3072, .inl (fun _ => 0))), (q92, .inl (c3.2.1, 512, .inl (fun _ => 0))), (q100, .inl (c3.2.1, 81, .inl (fun _ => 0))), (q107, .inl (c3.1, 4, .inl (fun _ => 0))), (q114, .inl (c3.1, 4, .inl (fun _ => 0))), (q121, .inl (c3.2.1, 4, .inl (fun _ => 0))), (q130, .inl (c3.2.1, 144, .inl (fun _ => 0))), (q139, .inl (c3.1, 864, .inl (fun _ => 0))), (q148, .inl (c3.1, 864, .inl (fun _ => 0))), (q156, .inl (c3.1, 10, .inl (fun _ => 0))), (q164, .inl (c3.2.1, 90, .inl (fun _ => 0))), (q173, .inl (c3.2.1, 240, .inl (fun _ => 0)))] : va_W)) := hD
  refine va_putF (D := G) (ci := 5) (v := .ref q173) (ty := (.array .boolean)) (C := RM) (T := TM) (N := 25) hx hb (hT.hts args) inM tyM tkM nmM hown hK hP hD hS 0 rfl rfl 22 (by decide) (hT.1 _ wf_M_71 _) (fun _ h9 => h9) rfl hin rfl (by decide +kernel) rfl rfl (Nat.le_of_ble_eq_true rfl) d_M_init_175 (fun H locs hP hD hS => ?_)
  have hP : va_P G kl (([(h0, .inr (5, [.int 0, .ref q7, .ref q15, .ref q23, .ref q32, .ref q40, .ref q49, .int 0, .ref q57, .ref q66, .ref q74, .ref q83, .ref q92, .ref q100, .ref q107, .ref q114, .ref q121, .ref q130, .ref q139, .ref q148, .ref q156, .ref q164, .ref q173, .null, .null])), (q7, .inl (c3.1, 9, .inl (fun _ => 0))), (q15, .inl (c3.1, 6, .inl (fun _ => 0))), (q23, .inl (c3.1, 9, .inl (fun _ => 0))), (q32, .inl (c3.2.1, 360, .inl (fun _ => 0))), (q40, .inl (c3.2.1, 40, .inl (fun _ => 0))), (q49, .inl (c3.2.1, 243, .inl (fun _ => 0))), (q57, .inl (c3.1, 9, .inl (fun _ => 0))), (q66, .inl (c3.1, 3584, .inl (fun _ => 0))), (q74, .inl (c3.1, 9, .inl (fun _ => 0))), (q83, .inl (c3.2.1, 3072, .inl (fun _ => 0))), (q92, .inl (c3.2.1, 512, .inl (fun _ => 0))), (q100, .inl (c3.2.1, 81, .inl (fun _ => 0))), (q107, .inl (c3.1, 4, .inl (fun _ => 0))), (q114, .inl (c3.1, 4, .inl (fun _ => 0))), (q121, .inl (c3.2.1, 4, .inl (fun _ => 0))), (q130, .inl (c3.2.1, 144, .inl (fun _ => 0))), (q139, .inl (c3.1, 864, .inl (fun _ => 0))), (q148, .inl (c3.1, 864, .inl (fun _ => 0))), (q156, .inl (c3.1, 10, .inl (fun _ => 0))), (q164, .inl (c3.2.1, 90, .inl (fun _ => 0))), (q173, .inl (c3.2.1, 240, .inl (fun _ => 0)))] : va_W)) H := hP
  have hD : va_D (aC h0 sz) (([(h0, .inr (5, [.int 0, .ref q7, .ref q15, .ref q23, .ref q32, .ref q40, .ref q49, .int 0, .ref q57, .ref q66, .ref q74, .ref q83, .ref q92, .ref q100, .ref q107, .ref q114, .ref q121, .ref q130, .ref q139, .ref q148, .ref q156, .ref q164, .ref q173, .null, .null])), (q7, .inl (c3.1, 9, .inl (fun _ => 0))), (q15, .inl (c3.1, 6, .inl (fun _ => 0))), (q23, .inl (c3.1, 9, .inl (fun _ => 0))), (q32, .inl (c3.2.1, 360, .inl (fun _ => 0))), (q40, .inl (c3.2.1, 40, .inl (fun _ => 0))), (q49, .inl (c3.2.1, 243, .inl (fun _ => 0))), (q57, .inl (c3.1, 9, .inl (fun _ => 0))), (q66, .inl (c3.1, 3584, .inl (fun _ => 0))), (q74, .inl (c3.1, 9, .inl (fun _ => 0))), (q83, .inl (c3.2.1, 3072, .inl (fun _ => 0))), (q92, .inl (c3.2.1, 512, .inl (fun _ => 0))), (q100, .inl (c3.2.1, 81, .inl (fun _ => 0))), (q107, .inl (c3.1, 4, .inl (fun _ => 0))), (q114, .inl (c3.1, 4, .inl (fun _ => 0))), (q121, .inl (c3.2.1, 4, .inl (fun _ => 0))), (q130, .inl (c3.2.1, 144, .inl (fun _ => 0))), (q139, .inl (c3.1, 864, .inl (fun _ => 0))), (q148, .inl (c3.1, 864, .inl (fun _ => 0))), (q156, .inl (c3.1, 10, .inl (fun _ => 0))), (q164, .inl (c3.2.1, 90, .inl (fun _ => 0))), (q173, .inl (c3.2.1, 240, .inl (fun _ => 0)))] : va_W)) := hD
  refine lv_aload_n hx hb d_M_init_178 rfl (lv_at hl 0 rfl) ?_
  refine lv_bipush (v := 41) hx hb d_M_init_179 rfl ?_
  refine xn_newa hx hb hT hK hP hD hS hA (N := 41) (by decide) (by decide) (by decide) (by decide) (by decide) d_M_init_181 (fun q181 H hP hD hS => ?_)
  have hP : va_P G kl (([(h0, .inr (5, [.int 0, .ref q7, .ref q15, .ref q23, .ref q32, .ref q40, .ref q49, .int 0, .ref q57, .ref q66, .ref q74, .ref q83, .ref q92, .ref q100, .ref q107, .ref q114, .ref q121, .ref q130, .ref q139, .ref q148, .ref q156, .ref q164, .ref q173, .null, .null])), (q7, .inl (c3.1, 9, .inl (fun _ => 0))), (q15, .inl (c3.1, 6, .inl (fun _ => 0))), (q23, .inl (c3.1, 9, .inl (fun _ => 0))), (q32, .inl (c3.2.1, 360, .inl (fun _ => 0))), (q40, .inl (c3.2.1, 40, .inl (fun _ => 0))), (q49, .inl (c3.2.1, 243, .inl (fun _ => 0))), (q57, .inl (c3.1, 9, .inl (fun _ => 0))), (q66, .inl (c3.1, 3584, .inl (fun _ => 0))), (q74, .inl (c3.1, 9, .inl (fun _ => 0))), (q83, .inl (c3.2.1, 3072, .inl (fun _ => 0))), (q92, .inl (c3.2.1, 512, .inl (fun _ => 0))), (q100, .inl (c3.2.1, 81, .inl (fun _ => 0))), (q107, .inl (c3.1, 4, .inl (fun _ => 0))), (q114, .inl (c3.1, 4, .inl (fun _ => 0))), (q121, .inl (c3.2.1, 4, .inl (fun _ => 0))), (q130, .inl (c3.2.1, 144, .inl (fun _ => 0))), (q139, .inl (c3.1, 864, .inl (fun _ => 0))), (q148, .inl (c3.1, 864, .inl (fun _ => 0))), (q156, .inl (c3.1, 10, .inl (fun _ => 0))), (q164, .inl (c3.2.1, 90, .inl (fun _ => 0))), (q173, .inl (c3.2.1, 240, .inl (fun _ => 0))), (q181, .inl (c3.1, 41, .inl (fun _ => 0)))] : va_W)) H := hP
  have hD : va_D (aC h0 sz) (([(h0, .inr (5, [.int 0, .ref q7, .ref q15, .ref q23, .ref q32, .ref q40, .ref q49, .int 0, .ref q57, .ref q66, .ref q74, .ref q83, .ref q92, .ref q100, .ref q107, .ref q114, .ref q121, .ref q130, .ref q139, .ref q148, .ref q156, .ref q164, .ref q173, .null, .null])), (q7, .inl (c3.1, 9, .inl (fun _ => 0))), (q15, .inl (c3.1, 6, .inl (fun _ => 0))), (q23, .inl (c3.1, 9, .inl (fun _ => 0))), (q32, .inl (c3.2.1, 360, .inl (fun _ => 0))), (q40, .inl (c3.2.1, 40, .inl (fun _ => 0))), (q49, .inl (c3.2.1, 243, .inl (fun _ => 0))), (q57, .inl (c3.1, 9, .inl (fun _ => 0))), (q66, .inl (c3.1, 3584, .inl (fun _ => 0))), (q74, .inl (c3.1, 9, .inl (fun _ => 0))), (q83, .inl (c3.2.1, 3072, .inl (fun _ => 0))), (q92, .inl (c3.2.1, 512, .inl (fun _ => 0))), (q100, .inl (c3.2.1, 81, .inl (fun _ => 0))), (q107, .inl (c3.1, 4, .inl (fun _ => 0))), (q114, .inl (c3.1, 4, .inl (fun _ => 0))), (q121, .inl (c3.2.1, 4, .inl (fun _ => 0))), (q130, .inl (c3.2.1, 144, .inl (fun _ => 0))), (q139, .inl (c3.1, 864, .inl (fun _ => 0))), (q148, .inl (c3.1, 864, .inl (fun _ => 0))), (q156, .inl (c3.1, 10, .inl (fun _ => 0))), (q164, .inl (c3.2.1, 90, .inl (fun _ => 0))), (q173, .inl (c3.2.1, 240, .inl (fun _ => 0))), (q181, .inl (c3.1, 41, .inl (fun _ => 0)))] : va_W)) := hD
  refine va_putF (D := G) (ci := 5) (v := .ref q181) (ty := (.array .int)) (C := RM) (T := TM) (N := 25) hx hb (hT.hts args) inM tyM tkM nmM hown hK hP hD hS 0 rfl rfl 23 (by decide) (hT.1 _ wf_M_74 _) (fun _ h9 => h9) rfl hin rfl (by decide +kernel) rfl rfl (Nat.le_of_ble_eq_true rfl) d_M_init_183 (fun H locs hP hD hS => ?_)
  have hP : va_P G kl (([(h0, .inr (5, [.int 0, .ref q7, .ref q15, .ref q23, .ref q32, .ref q40, .ref q49, .int 0, .ref q57, .ref q66, .ref q74, .ref q83, .ref q92, .ref q100, .ref q107, .ref q114, .ref q121, .ref q130, .ref q139, .ref q148, .ref q156, .ref q164, .ref q173, .ref q181, .null])), (q7, .inl (c3.1, 9, .inl (fun _ => 0))), (q15, .inl (c3.1, 6, .inl (fun _ => 0))), (q23, .inl (c3.1, 9, .inl (fun _ => 0))), (q32, .inl (c3.2.1, 360, .inl (fun _ => 0))), (q40, .inl (c3.2.1, 40, .inl (fun _ => 0))), (q49, .inl (c3.2.1, 243, .inl (fun _ => 0))), (q57, .inl (c3.1, 9, .inl (fun _ => 0))), (q66, .inl (c3.1, 3584, .inl (fun _ => 0))), (q74, .inl (c3.1, 9, .inl (fun _ => 0))), (q83, .inl (c3.2.1, 3072, .inl (fun _ => 0))), (q92, .inl (c3.2.1, 512, .inl (fun _ => 0))), (q100, .inl (c3.2.1, 81, .inl (fun _ => 0))), (q107, .inl (c3.1, 4, .inl (fun _ => 0))), (q114, .inl (c3.1, 4, .inl (fun _ => 0))), (q121, .inl (c3.2.1, 4, .inl (fun _ => 0))), (q130, .inl (c3.2.1, 144, .inl (fun _ => 0))), (q139, .inl (c3.1, 864, .inl (fun _ => 0))), (q148, .inl (c3.1, 864, .inl (fun _ => 0))), (q156, .inl (c3.1, 10, .inl (fun _ => 0))), (q164, .inl (c3.2.1, 90, .inl (fun _ => 0))), (q173, .inl (c3.2.1, 240, .inl (fun _ => 0))), (q181, .inl (c3.1, 41, .inl (fun _ => 0)))] : va_W)) H := hP
  have hD : va_D (aC h0 sz) (([(h0, .inr (5, [.int 0, .ref q7, .ref q15, .ref q23, .ref q32, .ref q40, .ref q49, .int 0, .ref q57, .ref q66, .ref q74, .ref q83, .ref q92, .ref q100, .ref q107, .ref q114, .ref q121, .ref q130, .ref q139, .ref q148, .ref q156, .ref q164, .ref q173, .ref q181, .null])), (q7, .inl (c3.1, 9, .inl (fun _ => 0))), (q15, .inl (c3.1, 6, .inl (fun _ => 0))), (q23, .inl (c3.1, 9, .inl (fun _ => 0))), (q32, .inl (c3.2.1, 360, .inl (fun _ => 0))), (q40, .inl (c3.2.1, 40, .inl (fun _ => 0))), (q49, .inl (c3.2.1, 243, .inl (fun _ => 0))), (q57, .inl (c3.1, 9, .inl (fun _ => 0))), (q66, .inl (c3.1, 3584, .inl (fun _ => 0))), (q74, .inl (c3.1, 9, .inl (fun _ => 0))), (q83, .inl (c3.2.1, 3072, .inl (fun _ => 0))), (q92, .inl (c3.2.1, 512, .inl (fun _ => 0))), (q100, .inl (c3.2.1, 81, .inl (fun _ => 0))), (q107, .inl (c3.1, 4, .inl (fun _ => 0))), (q114, .inl (c3.1, 4, .inl (fun _ => 0))), (q121, .inl (c3.2.1, 4, .inl (fun _ => 0))), (q130, .inl (c3.2.1, 144, .inl (fun _ => 0))), (q139, .inl (c3.1, 864, .inl (fun _ => 0))), (q148, .inl (c3.1, 864, .inl (fun _ => 0))), (q156, .inl (c3.1, 10, .inl (fun _ => 0))), (q164, .inl (c3.2.1, 90, .inl (fun _ => 0))), (q173, .inl (c3.2.1, 240, .inl (fun _ => 0))), (q181, .inl (c3.1, 41, .inl (fun _ => 0)))] : va_W)) := hD
  refine lv_aload_n hx hb d_M_init_186 rfl (lv_at hl 0 rfl) ?_
  refine lv_ldc (v := 41984) hx hb hown (hT.1 _ wk_M_77 _) d_M_init_187 ?_
  refine xn_newz hx hb hT hK hP hD hS hA (N := 41984) (by decide) (by decide) (by decide) (by decide) (by decide) d_M_init_189 (fun q189 H hP hD hS => ?_)
  have hP : va_P G kl (([(h0, .inr (5, [.int 0, .ref q7, .ref q15, .ref q23, .ref q32, .ref q40, .ref q49, .int 0, .ref q57, .ref q66, .ref q74, .ref q83, .ref q92, .ref q100, .ref q107, .ref q114, .ref q121, .ref q130, .ref q139, .ref q148, .ref q156, .ref q164, .ref q173, .ref q181, .null])), (q7, .inl (c3.1, 9, .inl (fun _ => 0))), (q15, .inl (c3.1, 6, .inl (fun _ => 0))), (q23, .inl (c3.1, 9, .inl (fun _ => 0))), (q32, .inl (c3.2.1, 360, .inl (fun _ => 0))), (q40, .inl (c3.2.1, 40, .inl (fun _ => 0))), (q49, .inl (c3.2.1, 243, .inl (fun _ => 0))), (q57, .inl (c3.1, 9, .inl (fun _ => 0))), (q66, .inl (c3.1, 3584, .inl (fun _ => 0))), (q74, .inl (c3.1, 9, .inl (fun _ => 0))), (q83, .inl (c3.2.1, 3072, .inl (fun _ => 0))), (q92, .inl (c3.2.1, 512, .inl (fun _ => 0))), (q100, .inl (c3.2.1, 81, .inl (fun _ => 0))), (q107, .inl (c3.1, 4, .inl (fun _ => 0))), (q114, .inl (c3.1, 4, .inl (fun _ => 0))), (q121, .inl (c3.2.1, 4, .inl (fun _ => 0))), (q130, .inl (c3.2.1, 144, .inl (fun _ => 0))), (q139, .inl (c3.1, 864, .inl (fun _ => 0))), (q148, .inl (c3.1, 864, .inl (fun _ => 0))), (q156, .inl (c3.1, 10, .inl (fun _ => 0))), (q164, .inl (c3.2.1, 90, .inl (fun _ => 0))), (q173, .inl (c3.2.1, 240, .inl (fun _ => 0))), (q181, .inl (c3.1, 41, .inl (fun _ => 0))), (q189, .inl (c3.2.1, 41984, .inl (fun _ => 0)))] : va_W)) H := hP
  have hD : va_D (aC h0 sz) (([(h0, .inr (5, [.int 0, .ref q7, .ref q15, .ref q23, .ref q32, .ref q40, .ref q49, .int 0, .ref q57, .ref q66, .ref q74, .ref q83, .ref q92, .ref q100, .ref q107, .ref q114, .ref q121, .ref q130, .ref q139, .ref q148, .ref q156, .ref q164, .ref q173, .ref q181, .null])), (q7, .inl (c3.1, 9, .inl (fun _ => 0))), (q15, .inl (c3.1, 6, .inl (fun _ => 0))), (q23, .inl (c3.1, 9, .inl (fun _ => 0))), (q32, .inl (c3.2.1, 360, .inl (fun _ => 0))), (q40, .inl (c3.2.1, 40, .inl (fun _ => 0))), (q49, .inl (c3.2.1, 243, .inl (fun _ => 0))), (q57, .inl (c3.1, 9, .inl (fun _ => 0))), (q66, .inl (c3.1, 3584, .inl (fun _ => 0))), (q74, .inl (c3.1, 9, .inl (fun _ => 0))), (q83, .inl (c3.2.1, 3072, .inl (fun _ => 0))), (q92, .inl (c3.2.1, 512, .inl (fun _ => 0))), (q100, .inl (c3.2.1, 81, .inl (fun _ => 0))), (q107, .inl (c3.1, 4, .inl (fun _ => 0))), (q114, .inl (c3.1, 4, .inl (fun _ => 0))), (q121, .inl (c3.2.1, 4, .inl (fun _ => 0))), (q130, .inl (c3.2.1, 144, .inl (fun _ => 0))), (q139, .inl (c3.1, 864, .inl (fun _ => 0))), (q148, .inl (c3.1, 864, .inl (fun _ => 0))), (q156, .inl (c3.1, 10, .inl (fun _ => 0))), (q164, .inl (c3.2.1, 90, .inl (fun _ => 0))), (q173, .inl (c3.2.1, 240, .inl (fun _ => 0))), (q181, .inl (c3.1, 41, .inl (fun _ => 0))), (q189, .inl (c3.2.1, 41984, .inl (fun _ => 0)))] : va_W)) := hD
  refine va_putF (D := G) (ci := 5) (v := .ref q189) (ty := (.array .boolean)) (C := RM) (T := TM) (N := 25) hx hb (hT.hts args) inM tyM tkM nmM hown hK hP hD hS 0 rfl rfl 24 (by decide) (hT.1 _ wf_M_78 _) (fun _ h9 => h9) rfl hin rfl (by decide +kernel) rfl rfl (Nat.le_of_ble_eq_true rfl) d_M_init_191 (fun H locs hP hD hS => ?_)
  have hP : va_P G kl (([(h0, .inr (5, [.int 0, .ref q7, .ref q15, .ref q23, .ref q32, .ref q40, .ref q49, .int 0, .ref q57, .ref q66, .ref q74, .ref q83, .ref q92, .ref q100, .ref q107, .ref q114, .ref q121, .ref q130, .ref q139, .ref q148, .ref q156, .ref q164, .ref q173, .ref q181, .ref q189])), (q7, .inl (c3.1, 9, .inl (fun _ => 0))), (q15, .inl (c3.1, 6, .inl (fun _ => 0))), (q23, .inl (c3.1, 9, .inl (fun _ => 0))), (q32, .inl (c3.2.1, 360, .inl (fun _ => 0))), (q40, .inl (c3.2.1, 40, .inl (fun _ => 0))), (q49, .inl (c3.2.1, 243, .inl (fun _ => 0))), (q57, .inl (c3.1, 9, .inl (fun _ => 0))), (q66, .inl (c3.1, 3584, .inl (fun _ => 0))), (q74, .inl (c3.1, 9, .inl (fun _ => 0))), (q83, .inl (c3.2.1, 3072, .inl (fun _ => 0))), (q92, .inl (c3.2.1, 512, .inl (fun _ => 0))), (q100, .inl (c3.2.1, 81, .inl (fun _ => 0))), (q107, .inl (c3.1, 4, .inl (fun _ => 0))), (q114, .inl (c3.1, 4, .inl (fun _ => 0))), (q121, .inl (c3.2.1, 4, .inl (fun _ => 0))), (q130, .inl (c3.2.1, 144, .inl (fun _ => 0))), (q139, .inl (c3.1, 864, .inl (fun _ => 0))), (q148, .inl (c3.1, 864, .inl (fun _ => 0))), (q156, .inl (c3.1, 10, .inl (fun _ => 0))), (q164, .inl (c3.2.1, 90, .inl (fun _ => 0))), (q173, .inl (c3.2.1, 240, .inl (fun _ => 0))), (q181, .inl (c3.1, 41, .inl (fun _ => 0))), (q189, .inl (c3.2.1, 41984, .inl (fun _ => 0)))] : va_W)) H := hP
  have hD : va_D (aC h0 sz) (([(h0, .inr (5, [.int 0, .ref q7, .ref q15, .ref q23, .ref q32, .ref q40, .ref q49, .int 0, .ref q57, .ref q66, .ref q74, .ref q83, .ref q92, .ref q100, .ref q107, .ref q114, .ref q121, .ref q130, .ref q139, .ref q148, .ref q156, .ref q164, .ref q173, .ref q181, .ref q189])), (q7, .inl (c3.1, 9, .inl (fun _ => 0))), (q15, .inl (c3.1, 6, .inl (fun _ => 0))), (q23, .inl (c3.1, 9, .inl (fun _ => 0))), (q32, .inl (c3.2.1, 360, .inl (fun _ => 0))), (q40, .inl (c3.2.1, 40, .inl (fun _ => 0))), (q49, .inl (c3.2.1, 243, .inl (fun _ => 0))), (q57, .inl (c3.1, 9, .inl (fun _ => 0))), (q66, .inl (c3.1, 3584, .inl (fun _ => 0))), (q74, .inl (c3.1, 9, .inl (fun _ => 0))), (q83, .inl (c3.2.1, 3072, .inl (fun _ => 0))), (q92, .inl (c3.2.1, 512, .inl (fun _ => 0))), (q100, .inl (c3.2.1, 81, .inl (fun _ => 0))), (q107, .inl (c3.1, 4, .inl (fun _ => 0))), (q114, .inl (c3.1, 4, .inl (fun _ => 0))), (q121, .inl (c3.2.1, 4, .inl (fun _ => 0))), (q130, .inl (c3.2.1, 144, .inl (fun _ => 0))), (q139, .inl (c3.1, 864, .inl (fun _ => 0))), (q148, .inl (c3.1, 864, .inl (fun _ => 0))), (q156, .inl (c3.1, 10, .inl (fun _ => 0))), (q164, .inl (c3.2.1, 90, .inl (fun _ => 0))), (q173, .inl (c3.2.1, 240, .inl (fun _ => 0))), (q181, .inl (c3.1, 41, .inl (fun _ => 0))), (q189, .inl (c3.2.1, 41984, .inl (fun _ => 0)))] : va_W)) := hD
  have hge : ∀ k, 0 < k → k < 24 → sz ≤ (fun k => ([h0, q7, q15, q23, q32, q40, q49, q57, q66, q74, q83, q92, q100, q107, q114, q121, q130, q139, q148, q156, q164, q173, q181, q189] : List Nat).getD k 0) k := by
    intro k h1 h2
    have hAk : aC h0 sz ((fun k => ([h0, q7, q15, q23, q32, q40, q49, q57, q66, q74, q83, q92, q100, q107, q114, q121, q130, q139, q148, q156, q164, q173, q181, q189] : List Nat).getD k 0) k) := ((show va_D (aC h0 sz) (wd SM c3 (fun k => ([h0, q7, q15, q23, q32, q40, q49, q57, q66, q74, q83, q92, q100, q107, q114, q121, q130, q139, q148, q156, q164, q173, q181, q189] : List Nat).getD k 0) ((fun _ _ => 0) : Mem)) from hD).2 k _ (wd_at (List.getElem?_eq_getElem (show k < SM.length from h2))))
    rcases hAk with h | h
    · have := adI_of (show va_D (aC h0 sz) (wd SM c3 (fun k => ([h0, q7, q15, q23, q32, q40, q49, q57, q66, q74, q83, q92, q100, q107, q114, q121, q130, q139, q148, q156, q164, q173, q181, q189] : List Nat).getD k 0) ((fun _ _ => 0) : Mem)) from hD) k 0 h2 (by decide) h
      omega
    · exact h
  exact P2 (fun k => ([h0, q7, q15, q23, q32, q40, q49, q57, q66, q74, q83, q92, q100, q107, q114, q121, q130, q139, q148, q156, q164, q173, q181, q189] : List Nat).getD k 0) H _ _ rfl hge hP hD hS hl
