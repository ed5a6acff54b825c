def G_La_load (f : ll_S) (a1 : Int32) (a2 : Int32) (K : Int32 → ll_S → Prop) : Prop := (G_Lb_inRange f a1 a2 (fun r1 f2 => ((¬ r1 = 0 → (∀ f4, f4 = ll_w f2 17 0 0 → (G_rq f4 a1 a2 0 (fun r5 f6 => (G_La_endWith f6 r5 (f6 18 0) (fun r7 f8 => K r7 f8)))))) ∧ (r1 = 0 → K (-1) f2))))
set_option maxHeartbeats 4000000 in
set_option maxRecDepth 100000 in
theorem c_La_load (l : Launch) (D : va_G) (h : Nat → Nat) (cI cZ : ClassId) (f : ll_S) (a1 : Int32) (a2 : Int32) (K : Int32 → ll_S → Prop) (hG : G_La_load f a1 a2 K) : ll_Mi l y_La_load (Cond.code y_La_load b_La_load 4 (some .int) :: ll_xt) (ll_rk 310) D [(cI, .int), (cZ, .boolean)] (wd_X h cI cZ) [.ref (h 0), .int a1, .int a2] f K := by
  refine ll_starti (own := "LoaderLab") (by decide) rfl (Nat.le_of_ble_eq_true rfl) (fun p e s m below meth c ls cx hr hlk hA hX hl => ?_)
  have hl : lv_has ls 4 [(0, .ref (h 0)), (1, .int a1), (2, .int a2)] := hl
  obtain ⟨⟨hx, hb, -, -, -⟩, -⟩ := id cx
  unfold G_La_load at hG
  refine lv_iload_n hx hb d_La_load_0 rfl (lv_at hl 1 rfl) ?_
  refine lv_iload_n hx hb d_La_load_1 rfl (lv_at hl 2 rfl) ?_
  refine ll_callsi cx hA hX (c_Lb_inRange l D h cI cZ _ _ _ _ hG) (cw_La_40 cx.1.2.2.2.2 (ll_hR (by omega) (by decide))) rfl hl.1 rfl (Nat.le_of_ble_eq_true rfl) d_La_load_2 ⟨Nat.zero_le _, Nat.zero_le _⟩ (fun r1 f2 H locs hG hX => ?_)
  refine lv_if_ne (tgt := 10) hx hb d_La_load_5 (by decide) (fun c3 => ?_) (fun c3 => ?_)
  · have hG := hG.1 c3
    refine lv_aload_n hx hb d_La_load_10 rfl (lv_at hl 0 rfl) ?_
    refine lv_iconst (v := 0) hx hb d_La_load_11 (by decide) ?_
    refine px_La_begun cx hX d_La_load_12 (fun f4 ef4 H locs hX => ?_)
    replace hG := hG f4 ef4
    refine lv_aload_n hx hb d_La_load_15 rfl (lv_at hl 0 rfl) ?_
    refine lv_iload_n hx hb d_La_load_16 rfl (lv_at hl 1 rfl) ?_
    refine lv_iload_n hx hb d_La_load_17 rfl (lv_at hl 2 rfl) ?_
    refine lv_iconst (v := 0) hx hb d_La_load_18 (by decide) ?_
    refine ll_callvi cx hA hX (c_rq l D h cI cZ _ _ _ _ _ hG) (cw_La_63 cx.1.2.2.2.2 (ll_hR (by omega) (by decide))) (va_recv cx.2 hX.1 (ci := 0) (q0 := 0) rfl rfl) rfl hl.1 rfl (Nat.le_of_ble_eq_true rfl) d_La_load_19 ⟨Nat.zero_le _, Nat.zero_le _⟩ (fun r5 f6 H locs hG hX => ?_)
    refine lv_istore_n (lv' := [(3, .int r5), (0, .ref (h 0)), (1, .int a1), (2, .int a2)]) hx hb d_La_load_22 rfl hl (by decide) rfl (fun ls hl => ?_)
    refine lv_aload_n hx hb d_La_load_23 rfl (lv_at hl 1 rfl) ?_
    refine lv_iload_n hx hb d_La_load_24 rfl (lv_at hl 0 rfl) ?_
    refine lv_aload_n hx hb d_La_load_25 rfl (lv_at hl 1 rfl) ?_
    refine gx_La_risingCause cx hX d_La_load_26 ?_
    refine ll_callvi cx hA hX (c_La_endWith l D h cI cZ _ _ _ _ hG) (cw_La_67 cx.1.2.2.2.2 (ll_hR (by omega) (by decide))) (va_recv cx.2 hX.1 (ci := 0) (q0 := 0) rfl rfl) rfl hl.1 rfl (Nat.le_of_ble_eq_true rfl) d_La_load_29 ⟨Nat.zero_le _, Nat.zero_le _⟩ (fun r7 f8 H locs hG hX => ?_)
    exact ll_iret cx hr hlk hX hG d_La_load_32
  · have hG := hG.2 c3
    refine lv_iconst (v := (-1)) hx hb d_La_load_8 (by decide) ?_
    exact ll_iret cx hr hlk hX hG d_La_load_9
def G_La_resolve (f : ll_S) (a1 : Int32) (a2 : Int32) (K : Int32 → ll_S → Prop) : Prop := (G_Lc_hasPlace f a1 a2 (fun r1 f2 => ((r1 = 0 → K (-1) f2) ∧ (¬ r1 = 0 → (G_Lc_hasReference f2 a1 a2 (fun r4 f5 => ((¬ r4 = 0 → (∀ f7, f7 = ll_w f5 17 0 0 → (G_Lc_keptFor f7 a1 a2 (fun r8 f9 => ((¬ r8 = 0 → (G_Lc_keptFor f9 a1 a2 (fun r11 f12 => (G_Lc_keptCause f12 a1 a2 (fun r13 f14 => (G_La_endWith f14 r11 r13 (fun r15 f16 => K r15 f16))))))) ∧ (r8 = 0 → (G_Lc_loaderOf f9 a1 (fun r17 f18 => (G_Lc_referredName f18 a1 a2 (fun r19 f20 => (G_La_resolveFrom G_rq f20 r17 r19 0 (fun r21 f22 => (G_Lc_keep f22 a1 a2 r21 (f22 18 0) (fun f24 => (G_Lc_keptFor f24 a1 a2 (fun r25 f26 => (G_Lc_keptCause f26 a1 a2 (fun r27 f28 => (G_La_endWith f28 r25 r27 (fun r29 f30 => K r29 f30)))))))))))))))))))) ∧ (r4 = 0 → K (-1) f5))))))))
set_option maxHeartbeats 4000000 in
set_option maxRecDepth 100000 in
theorem c_La_resolve (l : Launch) (D : va_G) (h : Nat → Nat) (cI cZ : ClassId) (f : ll_S) (a1 : Int32) (a2 : Int32) (K : Int32 → ll_S → Prop) (hG : G_La_resolve f a1 a2 K) : ll_Mi l y_La_resolve (Cond.code y_La_resolve b_La_resolve 4 (some .int) :: ll_xt) (ll_rk 310) D [(cI, .int), (cZ, .boolean)] (wd_X h cI cZ) [.ref (h 0), .int a1, .int a2] f K := by
  refine ll_starti (own := "LoaderLab") (by decide) rfl (Nat.le_of_ble_eq_true rfl) (fun p e s m below meth c ls cx hr hlk hA hX hl => ?_)
  have hl : lv_has ls 4 [(0, .ref (h 0)), (1, .int a1), (2, .int a2)] := hl
  obtain ⟨⟨hx, hb, -, -, -⟩, -⟩ := id cx
  unfold G_La_resolve at hG
  refine lv_aload_n hx hb d_La_resolve_0 rfl (lv_at hl 0 rfl) ?_
  refine gx_La_classes cx hX d_La_resolve_1 ?_
  refine lv_iload_n hx hb d_La_resolve_4 rfl (lv_at hl 1 rfl) ?_
  refine lv_iload_n hx hb d_La_resolve_5 rfl (lv_at hl 2 rfl) ?_
  refine ll_callvi cx hA hX (c_Lc_hasPlace l D h cI cZ _ _ _ _ hG) (cw_La_71 cx.1.2.2.2.2 (ll_hR (by omega) (by decide))) (va_recv cx.2 hX.1 (ci := 2) (q0 := 2) rfl rfl) rfl hl.1 rfl (Nat.le_of_ble_eq_true rfl) d_La_resolve_6 ⟨Nat.zero_le _, Nat.zero_le _⟩ (fun r1 f2 H locs hG hX => ?_)
  refine lv_if_eq (tgt := 24) hx hb d_La_resolve_9 (by decide) (fun c3 => ?_) (fun c3 => ?_)
  · have hG := hG.1 c3
    refine lv_iconst (v := (-1)) hx hb d_La_resolve_24 (by decide) ?_
    exact ll_iret cx hr hlk hX hG d_La_resolve_25
  · have hG := hG.2 c3
    refine lv_aload_n hx hb d_La_resolve_12 rfl (lv_at hl 0 rfl) ?_
    refine gx_La_classes cx hX d_La_resolve_13 ?_
    refine lv_iload_n hx hb d_La_resolve_16 rfl (lv_at hl 1 rfl) ?_
    refine lv_iload_n hx hb d_La_resolve_17 rfl (lv_at hl 2 rfl) ?_
    refine ll_callvi cx hA hX (c_Lc_hasReference l D h cI cZ _ _ _ _ hG) (cw_La_85 cx.1.2.2.2.2 (ll_hR (by omega) (by decide))) (va_recv cx.2 hX.1 (ci := 2) (q0 := 2) rfl rfl) rfl hl.1 rfl (Nat.le_of_ble_eq_true rfl) d_La_resolve_18 ⟨Nat.zero_le _, Nat.zero_le _⟩ (fun r4 f5 H locs hG hX => ?_)
    refine lv_if_ne (tgt := 26) hx hb d_La_resolve_21 (by decide) (fun c6 => ?_) (fun c6 => ?_)
    · have hG := hG.1 c6
      refine lv_aload_n hx hb d_La_resolve_26 rfl (lv_at hl 0 rfl) ?_
      refine lv_iconst (v := 0) hx hb d_La_resolve_27 (by decide) ?_
      refine px_La_begun cx hX d_La_resolve_28 (fun f7 ef7 H locs hX => ?_)
      replace hG := hG f7 ef7
      refine lv_aload_n hx hb d_La_resolve_31 rfl (lv_at hl 0 rfl) ?_
      refine gx_La_classes cx hX d_La_resolve_32 ?_
      refine lv_iload_n hx hb d_La_resolve_35 rfl (lv_at hl 1 rfl) ?_
      refine lv_iload_n hx hb d_La_resolve_36 rfl (lv_at hl 2 rfl) ?_
      refine ll_callvi cx hA hX (c_Lc_keptFor l D h cI cZ _ _ _ _ hG) (cw_La_78 cx.1.2.2.2.2 (ll_hR (by omega) (by decide))) (va_recv cx.2 hX.1 (ci := 2) (q0 := 2) rfl rfl) rfl hl.1 rfl (Nat.le_of_ble_eq_true rfl) d_La_resolve_37 ⟨Nat.zero_le _, Nat.zero_le _⟩ (fun r8 f9 H locs hG hX => ?_)
      refine lv_if_ne (tgt := 80) hx hb d_La_resolve_40 (by decide) (fun c10 => ?_) (fun c10 => ?_)
      · have hG := hG.1 c10
        refine lv_aload_n hx hb d_La_resolve_80 rfl (lv_at hl 0 rfl) ?_
        refine lv_aload_n hx hb d_La_resolve_81 rfl (lv_at hl 0 rfl) ?_
        refine gx_La_classes cx hX d_La_resolve_82 ?_
        refine lv_iload_n hx hb d_La_resolve_85 rfl (lv_at hl 1 rfl) ?_
        refine lv_iload_n hx hb d_La_resolve_86 rfl (lv_at hl 2 rfl) ?_
        refine ll_callvi cx hA hX (c_Lc_keptFor l D h cI cZ _ _ _ _ hG) (cw_La_78 cx.1.2.2.2.2 (ll_hR (by omega) (by decide))) (va_recv cx.2 hX.1 (ci := 2) (q0 := 2) rfl rfl) rfl hl.1 rfl (Nat.le_of_ble_eq_true rfl) d_La_resolve_87 ⟨Nat.zero_le _, Nat.zero_le _⟩ (fun r11 f12 H locs hG hX => ?_)
        refine lv_aload_n hx hb d_La_resolve_90 rfl (lv_at hl 0 rfl) ?_
        refine gx_La_classes cx hX d_La_resolve_91 ?_
        refine lv_iload_n hx hb d_La_resolve_94 rfl (lv_at hl 1 rfl) ?_
        refine lv_iload_n hx hb d_La_resolve_95 rfl (lv_at hl 2 rfl) ?_
        refine ll_callvi cx hA hX (c_Lc_keptCause l D h cI cZ _ _ _ _ hG) (cw_La_101 cx.1.2.2.2.2 (ll_hR (by omega) (by decide))) (va_recv cx.2 hX.1 (ci := 2) (q0 := 2) rfl rfl) rfl hl.1 rfl (Nat.le_of_ble_eq_true rfl) d_La_resolve_96 ⟨Nat.zero_le _, Nat.zero_le _⟩ (fun r13 f14 H locs hG hX => ?_)
        refine ll_callvi cx hA hX (c_La_endWith l D h cI cZ _ _ _ _ hG) (cw_La_67 cx.1.2.2.2.2 (ll_hR (by omega) (by decide))) (va_recv cx.2 hX.1 (ci := 0) (q0 := 0) rfl rfl) rfl hl.1 rfl (Nat.le_of_ble_eq_true rfl) d_La_resolve_99 ⟨Nat.zero_le _, Nat.zero_le _⟩ (fun r15 f16 H locs hG hX => ?_)
        exact ll_iret cx hr hlk hX hG d_La_resolve_102
      · have hG := hG.2 c10
        refine lv_aload_n hx hb d_La_resolve_43 rfl (lv_at hl 0 rfl) ?_
        refine lv_aload_n hx hb d_La_resolve_44 rfl (lv_at hl 0 rfl) ?_
        refine gx_La_classes cx hX d_La_resolve_45 ?_
        refine lv_iload_n hx hb d_La_resolve_48 rfl (lv_at hl 1 rfl) ?_
        refine ll_callvi cx hA hX (c_Lc_loaderOf l D h cI cZ _ _ _ hG) (cw_La_88 cx.1.2.2.2.2 (ll_hR (by omega) (by decide))) (va_recv cx.2 hX.1 (ci := 2) (q0 := 2) rfl rfl) rfl hl.1 rfl (Nat.le_of_ble_eq_true rfl) d_La_resolve_49 ⟨Nat.zero_le _, Nat.zero_le _⟩ (fun r17 f18 H locs hG hX => ?_)
        refine lv_aload_n hx hb d_La_resolve_52 rfl (lv_at hl 0 rfl) ?_
        refine gx_La_classes cx hX d_La_resolve_53 ?_
        refine lv_iload_n hx hb d_La_resolve_56 rfl (lv_at hl 1 rfl) ?_
        refine lv_iload_n hx hb d_La_resolve_57 rfl (lv_at hl 2 rfl) ?_
        refine ll_callvi cx hA hX (c_Lc_referredName l D h cI cZ _ _ _ _ hG) (cw_La_92 cx.1.2.2.2.2 (ll_hR (by omega) (by decide))) (va_recv cx.2 hX.1 (ci := 2) (q0 := 2) rfl rfl) rfl hl.1 rfl (Nat.le_of_ble_eq_true rfl) d_La_resolve_58 ⟨Nat.zero_le _, Nat.zero_le _⟩ (fun r19 f20 H locs hG hX => ?_)
        refine lv_iconst (v := 0) hx hb d_La_resolve_61 (by decide) ?_
        refine ll_callvi cx hA hX (c_La_resolveFrom l D h cI cZ G_rq 258 (by decide) (c_rq l D h cI cZ) _ _ _ _ _ hG) (cw_La_95 cx.1.2.2.2.2 (ll_hR (by omega) (by decide))) (va_recv cx.2 hX.1 (ci := 0) (q0 := 0) rfl rfl) rfl hl.1 rfl (Nat.le_of_ble_eq_true rfl) d_La_resolve_62 ⟨Nat.zero_le _, Nat.zero_le _⟩ (fun r21 f22 H locs hG hX => ?_)
        refine lv_istore_n (lv' := [(3, .int r21), (0, .ref (h 0)), (1, .int a1), (2, .int a2)]) hx hb d_La_resolve_65 rfl hl (by decide) rfl (fun ls hl => ?_)
        refine lv_aload_n hx hb d_La_resolve_66 rfl (lv_at hl 1 rfl) ?_
        refine gx_La_classes cx hX d_La_resolve_67 ?_
        refine lv_iload_n hx hb d_La_resolve_70 rfl (lv_at hl 2 rfl) ?_
        refine lv_iload_n hx hb d_La_resolve_71 rfl (lv_at hl 3 rfl) ?_
        refine lv_iload_n hx hb d_La_resolve_72 rfl (lv_at hl 0 rfl) ?_
        refine lv_aload_n hx hb d_La_resolve_73 rfl (lv_at hl 1 rfl) ?_
        refine gx_La_risingCause cx hX d_La_resolve_74 ?_
        refine ll_callvv cx hA hX (c_Lc_keep l D h cI cZ _ _ _ _ _ _ hG) (cw_La_98 cx.1.2.2.2.2 (ll_hR (by omega) (by decide))) (va_recv cx.2 hX.1 (ci := 2) (q0 := 2) rfl rfl) rfl hl.1 rfl (Nat.le_of_ble_eq_true rfl) d_La_resolve_77 ⟨Nat.zero_le _, Nat.zero_le _⟩ (fun f24 H locs hG hX => ?_)
        refine lv_aload_n hx hb d_La_resolve_80 rfl (lv_at hl 1 rfl) ?_
        refine lv_aload_n hx hb d_La_resolve_81 rfl (lv_at hl 1 rfl) ?_
        refine gx_La_classes cx hX d_La_resolve_82 ?_
        refine lv_iload_n hx hb d_La_resolve_85 rfl (lv_at hl 2 rfl) ?_
        refine lv_iload_n hx hb d_La_resolve_86 rfl (lv_at hl 3 rfl) ?_
        refine ll_callvi cx hA hX (c_Lc_keptFor l D h cI cZ _ _ _ _ hG) (cw_La_78 cx.1.2.2.2.2 (ll_hR (by omega) (by decide))) (va_recv cx.2 hX.1 (ci := 2) (q0 := 2) rfl rfl) rfl hl.1 rfl (Nat.le_of_ble_eq_true rfl) d_La_resolve_87 ⟨Nat.zero_le _, Nat.zero_le _⟩ (fun r25 f26 H locs hG hX => ?_)
        refine lv_aload_n hx hb d_La_resolve_90 rfl (lv_at hl 1 rfl) ?_
        refine gx_La_classes cx hX d_La_resolve_91 ?_
        refine lv_iload_n hx hb d_La_resolve_94 rfl (lv_at hl 2 rfl) ?_
        refine lv_iload_n hx hb d_La_resolve_95 rfl (lv_at hl 3 rfl) ?_
        refine ll_callvi cx hA hX (c_Lc_keptCause l D h cI cZ _ _ _ _ hG) (cw_La_101 cx.1.2.2.2.2 (ll_hR (by omega) (by decide))) (va_recv cx.2 hX.1 (ci := 2) (q0 := 2) rfl rfl) rfl hl.1 rfl (Nat.le_of_ble_eq_true rfl) d_La_resolve_96 ⟨Nat.zero_le _, Nat.zero_le _⟩ (fun r27 f28 H locs hG hX => ?_)
        refine ll_callvi cx hA hX (c_La_endWith l D h cI cZ _ _ _ _ hG) (cw_La_67 cx.1.2.2.2.2 (ll_hR (by omega) (by decide))) (va_recv cx.2 hX.1 (ci := 0) (q0 := 0) rfl rfl) rfl hl.1 rfl (Nat.le_of_ble_eq_true rfl) d_La_resolve_99 ⟨Nat.zero_le _, Nat.zero_le _⟩ (fun r29 f30 H locs hG hX => ?_)
        exact ll_iret cx hr hlk hX hG d_La_resolve_102
    · have hG := hG.2 c6
      refine lv_iconst (v := (-1)) hx hb d_La_resolve_24 (by decide) ?_
      exact ll_iret cx hr hlk hX hG d_La_resolve_25
