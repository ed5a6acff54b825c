def G_La_resolveFrom (rq : ll_S → Int32 → Int32 → Int32 → (Int32 → ll_S → Prop) → Prop) (f : ll_S) (a1 : Int32) (a2 : Int32) (a3 : Int32) (K : Int32 → ll_S → Prop) : Prop := (rq f a1 a2 a3 (fun r1 f2 => ((¬ r1 = (-3 : Int32) → K r1 f2) ∧ (r1 = (-3 : Int32) → (G_La_failBecause f2 (-4) (-3) (fun r4 f5 => K r4 f5))))))
set_option maxHeartbeats 4000000 in
set_option maxRecDepth 100000 in
theorem c_La_resolveFrom (l : Launch) (D : va_G) (h : Nat → Nat) (cI cZ : ClassId) (rq : ll_S → Int32 → Int32 → Int32 → (Int32 → ll_S → Prop) → Prop) (rho : Nat) (hrho : 12 ≤ rho) (ihq : ∀ (f : ll_S) (a1 a2 a3 : Int32) (K : Int32 → ll_S → Prop), rq f a1 a2 a3 K → ll_Mi l y_La_request (Cond.code y_La_request b_La_request 6 (some .int) :: ll_xt) (ll_rk rho) D [(cI, .int), (cZ, .boolean)] (wd_X h cI cZ) [.ref (h 0), .int a1, .int a2, .int a3] f K) (f : ll_S) (a1 : Int32) (a2 : Int32) (a3 : Int32) (K : Int32 → ll_S → Prop) (hG : G_La_resolveFrom rq f a1 a2 a3 K) : ll_Mi l y_La_resolveFrom (Cond.code y_La_resolveFrom b_La_resolveFrom 5 (some .int) :: ll_xt) (ll_rk (rho + 1)) D [(cI, .int), (cZ, .boolean)] (wd_X h cI cZ) [.ref (h 0), .int a1, .int a2, .int a3] f K := by
  refine ll_starti (own := "LoaderLab") (by decide) rfl (Nat.le_of_ble_eq_true rfl) (fun p e s m below meth c ls cx hr hlk hA hX hl => ?_)
  have hl : lv_has ls 5 [(0, .ref (h 0)), (1, .int a1), (2, .int a2), (3, .int a3)] := hl
  obtain ⟨⟨hx, hb, -, -, -⟩, -⟩ := id cx
  unfold G_La_resolveFrom at hG
  refine lv_aload_n hx hb d_La_resolveFrom_0 rfl (lv_at hl 0 rfl) ?_
  refine lv_iload_n hx hb d_La_resolveFrom_1 rfl (lv_at hl 1 rfl) ?_
  refine lv_iload_n hx hb d_La_resolveFrom_2 rfl (lv_at hl 2 rfl) ?_
  refine lv_iload_n hx hb d_La_resolveFrom_3 rfl (lv_at hl 3 rfl) ?_
  refine ll_callvi cx hA hX (ihq _ _ _ _ _ hG) (cw_La_63 cx.1.2.2.2.2 (ll_hR (by omega) (by decide))) (va_recv cx.2 hX.1 (ci := 0) (q0 := 0) rfl rfl) rfl hl.1 rfl (Nat.le_of_ble_eq_true rfl) d_La_resolveFrom_4 ⟨Nat.zero_le _, Nat.zero_le _⟩ (fun r1 f2 H locs hG hX => ?_)
  refine lv_istore (lv' := [(4, .int r1), (0, .ref (h 0)), (1, .int a1), (2, .int a2), (3, .int a3)]) hx hb d_La_resolveFrom_7 hl (by decide) rfl (fun ls hl => ?_)
  refine lv_iload hx hb d_La_resolveFrom_9 (lv_at hl 0 rfl) ?_
  refine lv_bipush (v := (-3)) hx hb d_La_resolveFrom_11 (by decide) ?_
  refine lv_icmp_ne (tgt := 27) hx hb d_La_resolveFrom_13 (by decide) (fun c3 => ?_) (fun c3 => ?_)
  · have hG := hG.1 c3
    refine lv_iload hx hb d_La_resolveFrom_27 (lv_at hl 0 rfl) ?_
    exact ll_iret cx hr hlk hX hG d_La_resolveFrom_29
  · have hG := hG.2 c3
    refine lv_aload_n hx hb d_La_resolveFrom_16 rfl (lv_at hl 1 rfl) ?_
    refine lv_bipush (v := (-4)) hx hb d_La_resolveFrom_17 (by decide) ?_
    refine lv_bipush (v := (-3)) hx hb d_La_resolveFrom_19 (by decide) ?_
    refine ll_callvi cx hA hX (c_La_failBecause l D h cI cZ _ _ _ _ hG) (cw_La_148 cx.1.2.2.2.2 (ll_hR (by omega) (by decide))) (va_recv cx.2 hX.1 (ci := 0) (q0 := 0) rfl rfl) rfl hl.1 rfl (Nat.le_of_ble_eq_true rfl) d_La_resolveFrom_21 ⟨Nat.zero_le _, Nat.zero_le _⟩ (fun r4 f5 H locs hG hX => ?_)
    refine lv_goto (tgt := 29) hx hb d_La_resolveFrom_24 (by decide) ?_
    exact ll_iret cx hr hlk hX hG d_La_resolveFrom_29
def G_La_askParent (rq : ll_S → Int32 → Int32 → Int32 → (Int32 → ll_S → Prop) → Prop) (f : ll_S) (a1 : Int32) (a2 : Int32) (a3 : Int32) (K : Int32 → ll_S → Prop) : Prop := (G_Lb_parentOf f a1 (fun r1 f2 => ((¬ r1 = (-1 : Int32) → (rq f2 r1 a2 (a3 + 1) (fun r4 f5 => K r4 f5))) ∧ (r1 = (-1 : Int32) → (G_La_fail f2 (-3) (fun r6 f7 => K r6 f7))))))
set_option maxHeartbeats 4000000 in
set_option maxRecDepth 100000 in
theorem c_La_askParent (l : Launch) (D : va_G) (h : Nat → Nat) (cI cZ : ClassId) (rq : ll_S → Int32 → Int32 → Int32 → (Int32 → ll_S → Prop) → Prop) (rho : Nat) (hrho : 12 ≤ rho) (ihq : ∀ (f : ll_S) (a1 a2 a3 : Int32) (K : Int32 → ll_S → Prop), rq f a1 a2 a3 K → ll_Mi l y_La_request (Cond.code y_La_request b_La_request 6 (some .int) :: ll_xt) (ll_rk rho) D [(cI, .int), (cZ, .boolean)] (wd_X h cI cZ) [.ref (h 0), .int a1, .int a2, .int a3] f K) (f : ll_S) (a1 : Int32) (a2 : Int32) (a3 : Int32) (K : Int32 → ll_S → Prop) (hG : G_La_askParent rq f a1 a2 a3 K) : ll_Mi l y_La_askParent (Cond.code y_La_askParent b_La_askParent 5 (some .int) :: ll_xt) (ll_rk (rho + 1)) D [(cI, .int), (cZ, .boolean)] (wd_X h cI cZ) [.ref (h 0), .int a1, .int a2, .int a3] f K := by
  refine ll_starti (own := "LoaderLab") (by decide) rfl (Nat.le_of_ble_eq_true rfl) (fun p e s m below meth c ls cx hr hlk hA hX hl => ?_)
  have hl : lv_has ls 5 [(0, .ref (h 0)), (1, .int a1), (2, .int a2), (3, .int a3)] := hl
  obtain ⟨⟨hx, hb, -, -, -⟩, -⟩ := id cx
  unfold G_La_askParent at hG
  refine lv_aload_n hx hb d_La_askParent_0 rfl (lv_at hl 0 rfl) ?_
  refine gx_La_loaders cx hX d_La_askParent_1 ?_
  refine lv_iload_n hx hb d_La_askParent_4 rfl (lv_at hl 1 rfl) ?_
  refine ll_callvi cx hA hX (c_Lb_parentOf l D h cI cZ _ _ _ hG) (cw_La_188 cx.1.2.2.2.2 (ll_hR (by omega) (by decide))) (va_recv cx.2 hX.1 (ci := 1) (q0 := 1) rfl rfl) rfl hl.1 rfl (Nat.le_of_ble_eq_true rfl) d_La_askParent_5 ⟨Nat.zero_le _, Nat.zero_le _⟩ (fun r1 f2 H locs hG hX => ?_)
  refine lv_istore (lv' := [(4, .int r1), (0, .ref (h 0)), (1, .int a1), (2, .int a2), (3, .int a3)]) hx hb d_La_askParent_8 hl (by decide) rfl (fun ls hl => ?_)
  refine lv_iload hx hb d_La_askParent_10 (lv_at hl 0 rfl) ?_
  refine lv_iconst (v := (-1)) hx hb d_La_askParent_12 (by decide) ?_
  refine lv_icmp_ne (tgt := 25) hx hb d_La_askParent_13 (by decide) (fun c3 => ?_) (fun c3 => ?_)
  · have hG := hG.1 c3
    refine lv_aload_n hx hb d_La_askParent_25 rfl (lv_at hl 1 rfl) ?_
    refine lv_iload hx hb d_La_askParent_26 (lv_at hl 0 rfl) ?_
    refine lv_iload_n hx hb d_La_askParent_28 rfl (lv_at hl 3 rfl) ?_
    refine lv_iload_n hx hb d_La_askParent_29 rfl (lv_at hl 4 rfl) ?_
    refine lv_iconst (v := 1) hx hb d_La_askParent_30 (by decide) ?_
    refine lv_iadd hx hb d_La_askParent_31 ?_
    refine ll_callvi cx hA hX (ihq _ _ _ _ _ hG) (cw_La_63 cx.1.2.2.2.2 (ll_hR (by omega) (by decide))) (va_recv cx.2 hX.1 (ci := 0) (q0 := 0) rfl rfl) rfl hl.1 rfl (Nat.le_of_ble_eq_true rfl) d_La_askParent_32 ⟨Nat.zero_le _, Nat.zero_le _⟩ (fun r4 f5 H locs hG hX => ?_)
    exact ll_iret cx hr hlk hX hG d_La_askParent_35
  · have hG := hG.2 c3
    refine lv_aload_n hx hb d_La_askParent_16 rfl (lv_at hl 1 rfl) ?_
    refine lv_bipush (v := (-3)) hx hb d_La_askParent_17 (by decide) ?_
    refine ll_callvi cx hA hX (c_La_fail l D h cI cZ _ _ _ hG) (cw_La_154 cx.1.2.2.2.2 (ll_hR (by omega) (by decide))) (va_recv cx.2 hX.1 (ci := 0) (q0 := 0) rfl rfl) rfl hl.1 rfl (Nat.le_of_ble_eq_true rfl) d_La_askParent_19 ⟨Nat.zero_le _, Nat.zero_le _⟩ (fun r6 f7 H locs hG hX => ?_)
    refine lv_goto (tgt := 35) hx hb d_La_askParent_22 (by decide) ?_
    exact ll_iret cx hr hlk hX hG d_La_askParent_35
def G_La_resolvePart (rq : ll_S → Int32 → Int32 → Int32 → (Int32 → ll_S → Prop) → Prop) (f : ll_S) (a1 : Int32) (a2 : Int32) (a3 : Int32) (K : Int32 → ll_S → Prop) : Prop := ((¬ a2 = (8 : Int32) → (G_Lb_isUnderWay f a1 a2 (fun r2 f3 => ((r2 = 0 → (G_La_resolveFrom rq f3 a1 a2 (a3 + 1) (fun r5 f6 => K r5 f6))) ∧ (¬ r2 = 0 → (G_La_fail f3 (-7) (fun r7 f8 => K r7 f8))))))) ∧ (a2 = (8 : Int32) → K 0 f))
set_option maxHeartbeats 4000000 in
set_option maxRecDepth 100000 in
theorem c_La_resolvePart (l : Launch) (D : va_G) (h : Nat → Nat) (cI cZ : ClassId) (rq : ll_S → Int32 → Int32 → Int32 → (Int32 → ll_S → Prop) → Prop) (rho : Nat) (hrho : 12 ≤ rho) (ihq : ∀ (f : ll_S) (a1 a2 a3 : Int32) (K : Int32 → ll_S → Prop), rq f a1 a2 a3 K → ll_Mi l y_La_request (Cond.code y_La_request b_La_request 6 (some .int) :: ll_xt) (ll_rk rho) D [(cI, .int), (cZ, .boolean)] (wd_X h cI cZ) [.ref (h 0), .int a1, .int a2, .int a3] f K) (f : ll_S) (a1 : Int32) (a2 : Int32) (a3 : Int32) (K : Int32 → ll_S → Prop) (hG : G_La_resolvePart rq f a1 a2 a3 K) : ll_Mi l y_La_resolvePart (Cond.code y_La_resolvePart b_La_resolvePart 4 (some .int) :: ll_xt) (ll_rk (rho + 2)) D [(cI, .int), (cZ, .boolean)] (wd_X h cI cZ) [.ref (h 0), .int a1, .int a2, .int a3] f K := by
  refine ll_starti (own := "LoaderLab") (by decide) rfl (Nat.le_of_ble_eq_true rfl) (fun p e s m below meth c ls cx hr hlk hA hX hl => ?_)
  have hl : lv_has ls 4 [(0, .ref (h 0)), (1, .int a1), (2, .int a2), (3, .int a3)] := hl
  obtain ⟨⟨hx, hb, -, -, -⟩, -⟩ := id cx
  unfold G_La_resolvePart at hG
  refine lv_iload_n hx hb d_La_resolvePart_0 rfl (lv_at hl 2 rfl) ?_
  refine lv_bipush (v := 8) hx hb d_La_resolvePart_1 (by decide) ?_
  refine lv_icmp_ne (tgt := 8) hx hb d_La_resolvePart_3 (by decide) (fun c1 => ?_) (fun c1 => ?_)
  · have hG := hG.1 c1
    refine lv_aload_n hx hb d_La_resolvePart_8 rfl (lv_at hl 0 rfl) ?_
    refine gx_La_loaders cx hX d_La_resolvePart_9 ?_
    refine lv_iload_n hx hb d_La_resolvePart_12 rfl (lv_at hl 1 rfl) ?_
    refine lv_iload_n hx hb d_La_resolvePart_13 rfl (lv_at hl 2 rfl) ?_
    refine ll_callvi cx hA hX (c_Lb_isUnderWay l D h cI cZ _ _ _ _ hG) (cw_La_151 cx.1.2.2.2.2 (ll_hR (by omega) (by decide))) (va_recv cx.2 hX.1 (ci := 1) (q0 := 1) rfl rfl) rfl hl.1 rfl (Nat.le_of_ble_eq_true rfl) d_La_resolvePart_14 ⟨Nat.zero_le _, Nat.zero_le _⟩ (fun r2 f3 H locs hG hX => ?_)
    refine lv_if_eq (tgt := 27) hx hb d_La_resolvePart_17 (by decide) (fun c4 => ?_) (fun c4 => ?_)
    · have hG := hG.1 c4
      refine lv_aload_n hx hb d_La_resolvePart_27 rfl (lv_at hl 0 rfl) ?_
      refine lv_iload_n hx hb d_La_resolvePart_28 rfl (lv_at hl 1 rfl) ?_
      refine lv_iload_n hx hb d_La_resolvePart_29 rfl (lv_at hl 2 rfl) ?_
      refine lv_iload_n hx hb d_La_resolvePart_30 rfl (lv_at hl 3 rfl) ?_
      refine lv_iconst (v := 1) hx hb d_La_resolvePart_31 (by decide) ?_
      refine lv_iadd hx hb d_La_resolvePart_32 ?_
      refine ll_callvi cx hA hX (c_La_resolveFrom l D h cI cZ rq rho hrho ihq _ _ _ _ _ hG) (cw_La_95 cx.1.2.2.2.2 (ll_hR (by omega) (by decide))) (va_recv cx.2 hX.1 (ci := 0) (q0 := 0) rfl rfl) rfl hl.1 rfl (Nat.le_of_ble_eq_true rfl) d_La_resolvePart_33 ⟨Nat.zero_le _, Nat.zero_le _⟩ (fun r5 f6 H locs hG hX => ?_)
      exact ll_iret cx hr hlk hX hG d_La_resolvePart_36
    · have hG := hG.2 c4
      refine lv_aload_n hx hb d_La_resolvePart_20 rfl (lv_at hl 0 rfl) ?_
      refine lv_bipush (v := (-7)) hx hb d_La_resolvePart_21 (by decide) ?_
      refine ll_callvi cx hA hX (c_La_fail l D h cI cZ _ _ _ hG) (cw_La_154 cx.1.2.2.2.2 (ll_hR (by omega) (by decide))) (va_recv cx.2 hX.1 (ci := 0) (q0 := 0) rfl rfl) rfl hl.1 rfl (Nat.le_of_ble_eq_true rfl) d_La_resolvePart_23 ⟨Nat.zero_le _, Nat.zero_le _⟩ (fun r7 f8 H locs hG hX => ?_)
      exact ll_iret cx hr hlk hX hG d_La_resolvePart_26
  · have hG := hG.2 c1
    refine lv_iconst (v := 0) hx hb d_La_resolvePart_6 (by decide) ?_
    exact ll_iret cx hr hlk hX hG d_La_resolvePart_7
def G_La_define (rq : ll_S → Int32 → Int32 → Int32 → (Int32 → ll_S → Prop) → Prop) (f : ll_S) (a1 : Int32) (a2 : Int32) (a3 : Int32) (K : Int32 → ll_S → Prop) : Prop := (G_Lb_hasFile f a1 a2 (fun r1 f2 => ((¬ r1 = 0 → (G_Lb_fileMarks f2 a1 a2 (fun r4 f5 => (((r4 &&& 4) = 0 → (G_Lb_fileSays f5 a1 a2 (fun r7 f8 => ((r7 = a2 → (G_Lb_fileSuperclass f8 a1 a2 (fun r10 f11 => (G_La_resolvePart rq f11 a1 r10 a3 (fun r12 f13 => ((0 ≤ r12 → ((r12 = 0 → (G_Lb_fileInterface f13 a1 a2 (fun r16 f17 => (G_La_resolvePart rq f17 a1 r16 a3 (fun r18 f19 => ((0 ≤ r18 → ((r18 = 0 → (G_Lc_size f19  (fun r22 f23 => ((r22 < (30 : Int32) → (G_Lc_add f23 a2 a1 r12 r18 r4 (fun r25 f26 => K r25 f26))) ∧ (¬ r22 < (30 : Int32) → (G_La_fail f23 (-2) (fun r27 f28 => K r27 f28))))))) ∧ (¬ r18 = 0 → (G_Lc_marksOf f19 r18 (fun r29 f30 => ((¬ (r29 &&& 1) = 0 → (G_Lc_size f30  (fun r32 f33 => ((r32 < (30 : Int32) → (G_Lc_add f33 a2 a1 r12 r18 r4 (fun r35 f36 => K r35 f36))) ∧ (¬ r32 < (30 : Int32) → (G_La_fail f33 (-2) (fun r37 f38 => K r37 f38))))))) ∧ ((r29 &&& 1) = 0 → (G_La_fail f30 (-8) (fun r39 f40 => K r39 f40))))))))) ∧ (¬ 0 ≤ r18 → K r18 f19))))))) ∧ (¬ r12 = 0 → (G_Lc_marksOf f13 r12 (fun r41 f42 => (((r41 &&& 3) = 0 → (G_Lb_fileInterface f42 a1 a2 (fun r44 f45 => (G_La_resolvePart rq f45 a1 r44 a3 (fun r46 f47 => ((0 ≤ r46 → ((r46 = 0 → (G_Lc_size f47  (fun r50 f51 => ((r50 < (30 : Int32) → (G_Lc_add f51 a2 a1 r12 r46 r4 (fun r53 f54 => K r53 f54))) ∧ (¬ r50 < (30 : Int32) → (G_La_fail f51 (-2) (fun r55 f56 => K r55 f56))))))) ∧ (¬ r46 = 0 → (G_Lc_marksOf f47 r46 (fun r57 f58 => ((¬ (r57 &&& 1) = 0 → (G_Lc_size f58  (fun r60 f61 => ((r60 < (30 : Int32) → (G_Lc_add f61 a2 a1 r12 r46 r4 (fun r63 f64 => K r63 f64))) ∧ (¬ r60 < (30 : Int32) → (G_La_fail f61 (-2) (fun r65 f66 => K r65 f66))))))) ∧ ((r57 &&& 1) = 0 → (G_La_fail f58 (-8) (fun r67 f68 => K r67 f68))))))))) ∧ (¬ 0 ≤ r46 → K r46 f47))))))) ∧ (¬ (r41 &&& 3) = 0 → (G_La_fail f42 (-8) (fun r69 f70 => K r69 f70))))))))) ∧ (¬ 0 ≤ r12 → K r12 f13))))))) ∧ (¬ r7 = a2 → (G_La_fail f8 (-5) (fun r71 f72 => K r71 f72))))))) ∧ (¬ (r4 &&& 4) = 0 → (G_La_fail f5 (-6) (fun r73 f74 => K r73 f74))))))) ∧ (r1 = 0 → (G_La_fail f2 (-3) (fun r75 f76 => K r75 f76))))))
set_option maxHeartbeats 4000000 in
set_option maxRecDepth 100000 in
theorem c_La_define (l : Launch) (D : va_G) (h : Nat → Nat) (cI cZ : ClassId) (rq : ll_S → Int32 → Int32 → Int32 → (Int32 → ll_S → Prop) → Prop) (rho : Nat) (hrho : 12 ≤ rho) (ihq : ∀ (f : ll_S) (a1 a2 a3 : Int32) (K : Int32 → ll_S → Prop), rq f a1 a2 a3 K → ll_Mi l y_La_request (Cond.code y_La_request b_La_request 6 (some .int) :: ll_xt) (ll_rk rho) D [(cI, .int), (cZ, .boolean)] (wd_X h cI cZ) [.ref (h 0), .int a1, .int a2, .int a3] f K) (f : ll_S) (a1 : Int32) (a2 : Int32) (a3 : Int32) (K : Int32 → ll_S → Prop) (hG : G_La_define rq f a1 a2 a3 K) : ll_Mi l y_La_define (Cond.code y_La_define b_La_define 7 (some .int) :: ll_xt) (ll_rk (rho + 3)) D [(cI, .int), (cZ, .boolean)] (wd_X h cI cZ) [.ref (h 0), .int a1, .int a2, .int a3] f K := by
  refine ll_starti (own := "LoaderLab") (by decide) rfl (Nat.le_of_ble_eq_true rfl) (fun p e s m below meth c ls cx hr hlk hA hX hl => ?_)
  have hl : lv_has ls 7 [(0, .ref (h 0)), (1, .int a1), (2, .int a2), (3, .int a3)] := hl
  obtain ⟨⟨hx, hb, -, -, -⟩, -⟩ := id cx
  unfold G_La_define at hG
  refine lv_aload_n hx hb d_La_define_0 rfl (lv_at hl 0 rfl) ?_
  refine gx_La_loaders cx hX d_La_define_1 ?_
  refine lv_iload_n hx hb d_La_define_4 rfl (lv_at hl 1 rfl) ?_
  refine lv_iload_n hx hb d_La_define_5 rfl (lv_at hl 2 rfl) ?_
  refine ll_callvi cx hA hX (c_Lb_hasFile l D h cI cZ _ _ _ _ hG) (cw_La_51 cx.1.2.2.2.2 (ll_hR (by omega) (by decide))) (va_recv cx.2 hX.1 (ci := 1) (q0 := 1) rfl rfl) rfl hl.1 rfl (Nat.le_of_ble_eq_true rfl) d_La_define_6 ⟨Nat.zero_le _, Nat.zero_le _⟩ (fun r1 f2 H locs hG hX => ?_)
  refine lv_if_ne (tgt := 19) hx hb d_La_define_9 (by decide) (fun c3 => ?_) (fun c3 => ?_)
  · have hG := hG.1 c3
    refine lv_aload_n hx hb d_La_define_19 rfl (lv_at hl 0 rfl) ?_
    refine gx_La_loaders cx hX d_La_define_20 ?_
    refine lv_iload_n hx hb d_La_define_23 rfl (lv_at hl 1 rfl) ?_
    refine lv_iload_n hx hb d_La_define_24 rfl (lv_at hl 2 rfl) ?_
    refine ll_callvi cx hA hX (c_Lb_fileMarks l D h cI cZ _ _ _ _ hG) (cw_La_191 cx.1.2.2.2.2 (ll_hR (by omega) (by decide))) (va_recv cx.2 hX.1 (ci := 1) (q0 := 1) rfl rfl) rfl hl.1 rfl (Nat.le_of_ble_eq_true rfl) d_La_define_25 ⟨Nat.zero_le _, Nat.zero_le _⟩ (fun r4 f5 H locs hG hX => ?_)
    refine lv_istore (lv' := [(4, .int r4), (0, .ref (h 0)), (1, .int a1), (2, .int a2), (3, .int a3)]) hx hb d_La_define_28 hl (by decide) rfl (fun ls hl => ?_)
    refine lv_iload hx hb d_La_define_30 (lv_at hl 0 rfl) ?_
    refine lv_iconst (v := 4) hx hb d_La_define_32 (by decide) ?_
    refine lv_iand hx hb d_La_define_33 ?_
    refine lv_if_eq (tgt := 44) hx hb d_La_define_34 (by decide) (fun c6 => ?_) (fun c6 => ?_)
    · have hG := hG.1 c6
      refine lv_aload_n hx hb d_La_define_44 rfl (lv_at hl 1 rfl) ?_
      refine gx_La_loaders cx hX d_La_define_45 ?_
      refine lv_iload_n hx hb d_La_define_48 rfl (lv_at hl 2 rfl) ?_
      refine lv_iload_n hx hb d_La_define_49 rfl (lv_at hl 3 rfl) ?_
      refine ll_callvi cx hA hX (c_Lb_fileSays l D h cI cZ _ _ _ _ hG) (cw_La_194 cx.1.2.2.2.2 (ll_hR (by omega) (by decide))) (va_recv cx.2 hX.1 (ci := 1) (q0 := 1) rfl rfl) rfl hl.1 rfl (Nat.le_of_ble_eq_true rfl) d_La_define_50 ⟨Nat.zero_le _, Nat.zero_le _⟩ (fun r7 f8 H locs hG hX => ?_)
      refine lv_iload_n hx hb d_La_define_53 rfl (lv_at hl 3 rfl) ?_
      refine lv_icmp_eq (tgt := 64) hx hb d_La_define_54 (by decide) (fun c9 => ?_) (fun c9 => ?_)
      · have hG := hG.1 c9
        refine lv_aload_n hx hb d_La_define_64 rfl (lv_at hl 1 rfl) ?_
        refine lv_iload_n hx hb d_La_define_65 rfl (lv_at hl 2 rfl) ?_
        refine lv_aload_n hx hb d_La_define_66 rfl (lv_at hl 1 rfl) ?_
        refine gx_La_loaders cx hX d_La_define_67 ?_
        refine lv_iload_n hx hb d_La_define_70 rfl (lv_at hl 2 rfl) ?_
        refine lv_iload_n hx hb d_La_define_71 rfl (lv_at hl 3 rfl) ?_
        refine ll_callvi cx hA hX (c_Lb_fileSuperclass l D h cI cZ _ _ _ _ hG) (cw_La_197 cx.1.2.2.2.2 (ll_hR (by omega) (by decide))) (va_recv cx.2 hX.1 (ci := 1) (q0 := 1) rfl rfl) rfl hl.1 rfl (Nat.le_of_ble_eq_true rfl) d_La_define_72 ⟨Nat.zero_le _, Nat.zero_le _⟩ (fun r10 f11 H locs hG hX => ?_)
        refine lv_iload_n hx hb d_La_define_75 rfl (lv_at hl 4 rfl) ?_
        refine ll_callvi cx hA hX (c_La_resolvePart l D h cI cZ rq rho hrho ihq _ _ _ _ _ hG) (cw_La_200 cx.1.2.2.2.2 (ll_hR (by omega) (by decide))) (va_recv cx.2 hX.1 (ci := 0) (q0 := 0) rfl rfl) rfl hl.1 rfl (Nat.le_of_ble_eq_true rfl) d_La_define_76 ⟨Nat.zero_le _, Nat.zero_le _⟩ (fun r12 f13 H locs hG hX => ?_)
        refine lv_istore (lv' := [(5, .int r12), (4, .int r4), (0, .ref (h 0)), (1, .int a1), (2, .int a2), (3, .int a3)]) hx hb d_La_define_79 hl (by decide) rfl (fun ls hl => ?_)
        refine lv_iload hx hb d_La_define_81 (lv_at hl 0 rfl) ?_
        refine lv_if_ge (tgt := 89) hx hb d_La_define_83 (by decide) (fun c14 => ?_) (fun c14 => ?_)
        · have hG := hG.1 c14
          refine lv_iload hx hb d_La_define_89 (lv_at hl 0 rfl) ?_
          refine lv_if_eq (tgt := 115) hx hb d_La_define_91 (by decide) (fun c15 => ?_) (fun c15 => ?_)
          · have hG := hG.1 c15
            refine lv_aload_n hx hb d_La_define_115 rfl (lv_at hl 2 rfl) ?_
            refine lv_iload_n hx hb d_La_define_116 rfl (lv_at hl 3 rfl) ?_
            refine lv_aload_n hx hb d_La_define_117 rfl (lv_at hl 2 rfl) ?_
            refine gx_La_loaders cx hX d_La_define_118 ?_
            refine lv_iload_n hx hb d_La_define_121 rfl (lv_at hl 3 rfl) ?_
            refine lv_iload_n hx hb d_La_define_122 rfl (lv_at hl 4 rfl) ?_
            refine ll_callvi cx hA hX (c_Lb_fileInterface l D h cI cZ _ _ _ _ hG) (cw_La_203 cx.1.2.2.2.2 (ll_hR (by omega) (by decide))) (va_recv cx.2 hX.1 (ci := 1) (q0 := 1) rfl rfl) rfl hl.1 rfl (Nat.le_of_ble_eq_true rfl) d_La_define_123 ⟨Nat.zero_le _, Nat.zero_le _⟩ (fun r16 f17 H locs hG hX => ?_)
            refine lv_iload_n hx hb d_La_define_126 rfl (lv_at hl 5 rfl) ?_
            refine ll_callvi cx hA hX (c_La_resolvePart l D h cI cZ rq rho hrho ihq _ _ _ _ _ hG) (cw_La_200 cx.1.2.2.2.2 (ll_hR (by omega) (by decide))) (va_recv cx.2 hX.1 (ci := 0) (q0 := 0) rfl rfl) rfl hl.1 rfl (Nat.le_of_ble_eq_true rfl) d_La_define_127 ⟨Nat.zero_le _, Nat.zero_le _⟩ (fun r18 f19 H locs hG hX => ?_)
            refine lv_istore (lv' := [(6, .int r18), (5, .int r12), (4, .int r4), (0, .ref (h 0)), (1, .int a1), (2, .int a2), (3, .int a3)]) hx hb d_La_define_130 hl (by decide) rfl (fun ls hl => ?_)
            refine lv_iload hx hb d_La_define_132 (lv_at hl 0 rfl) ?_
            refine lv_if_ge (tgt := 140) hx hb d_La_define_134 (by decide) (fun c20 => ?_) (fun c20 => ?_)
            · have hG := hG.1 c20
              refine lv_iload hx hb d_La_define_140 (lv_at hl 0 rfl) ?_
              refine lv_if_eq (tgt := 166) hx hb d_La_define_142 (by decide) (fun c21 => ?_) (fun c21 => ?_)
              · have hG := hG.1 c21
                refine lv_aload_n hx hb d_La_define_166 rfl (lv_at hl 3 rfl) ?_
                refine gx_La_classes cx hX d_La_define_167 ?_
                refine ll_callvi cx hA hX (c_Lc_size l D h cI cZ _ _ hG) (cw_La_132 cx.1.2.2.2.2 (ll_hR (by omega) (by decide))) (va_recv cx.2 hX.1 (ci := 2) (q0 := 2) rfl rfl) rfl hl.1 rfl (Nat.le_of_ble_eq_true rfl) d_La_define_170 ⟨Nat.zero_le _, Nat.zero_le _⟩ (fun r22 f23 H locs hG hX => ?_)
                refine lv_bipush (v := 30) hx hb d_La_define_173 (by decide) ?_
                refine lv_icmp_lt (tgt := 185) hx hb d_La_define_175 (by decide) (fun c24 => ?_) (fun c24 => ?_)
                · have hG := hG.1 c24
                  refine lv_aload_n hx hb d_La_define_185 rfl (lv_at hl 3 rfl) ?_
                  refine gx_La_classes cx hX d_La_define_186 ?_
                  refine lv_iload_n hx hb d_La_define_189 rfl (lv_at hl 5 rfl) ?_
                  refine lv_iload_n hx hb d_La_define_190 rfl (lv_at hl 4 rfl) ?_
                  refine lv_iload hx hb d_La_define_191 (lv_at hl 1 rfl) ?_
                  refine lv_iload hx hb d_La_define_193 (lv_at hl 0 rfl) ?_
                  refine lv_iload hx hb d_La_define_195 (lv_at hl 2 rfl) ?_
                  refine ll_callvi cx hA hX (c_Lc_add l D h cI cZ _ _ _ _ _ _ _ hG) (cw_La_206 cx.1.2.2.2.2 (ll_hR (by omega) (by decide))) (va_recv cx.2 hX.1 (ci := 2) (q0 := 2) rfl rfl) rfl hl.1 rfl (Nat.le_of_ble_eq_true rfl) d_La_define_197 ⟨Nat.zero_le _, Nat.zero_le _⟩ (fun r25 f26 H locs hG hX => ?_)
                  exact ll_iret cx hr hlk hX hG d_La_define_200
                · have hG := hG.2 c24
                  refine lv_aload_n hx hb d_La_define_178 rfl (lv_at hl 3 rfl) ?_
                  refine lv_bipush (v := (-2)) hx hb d_La_define_179 (by decide) ?_
                  refine ll_callvi cx hA hX (c_La_fail l D h cI cZ _ _ _ hG) (cw_La_154 cx.1.2.2.2.2 (ll_hR (by omega) (by decide))) (va_recv cx.2 hX.1 (ci := 0) (q0 := 0) rfl rfl) rfl hl.1 rfl (Nat.le_of_ble_eq_true rfl) d_La_define_181 ⟨Nat.zero_le _, Nat.zero_le _⟩ (fun r27 f28 H locs hG hX => ?_)
                  exact ll_iret cx hr hlk hX hG d_La_define_184
              · have hG := hG.2 c21
                refine lv_aload_n hx hb d_La_define_145 rfl (lv_at hl 3 rfl) ?_
                refine gx_La_classes cx hX d_La_define_146 ?_
                refine lv_iload hx hb d_La_define_149 (lv_at hl 0 rfl) ?_
                refine ll_callvi cx hA hX (c_Lc_marksOf l D h cI cZ _ _ _ hG) (cw_La_126 cx.1.2.2.2.2 (ll_hR (by omega) (by decide))) (va_recv cx.2 hX.1 (ci := 2) (q0 := 2) rfl rfl) rfl hl.1 rfl (Nat.le_of_ble_eq_true rfl) d_La_define_151 ⟨Nat.zero_le _, Nat.zero_le _⟩ (fun r29 f30 H locs hG hX => ?_)
                refine lv_iconst (v := 1) hx hb d_La_define_154 (by decide) ?_
                refine lv_iand hx hb d_La_define_155 ?_
                refine lv_if_ne (tgt := 166) hx hb d_La_define_156 (by decide) (fun c31 => ?_) (fun c31 => ?_)
                · have hG := hG.1 c31
                  refine lv_aload_n hx hb d_La_define_166 rfl (lv_at hl 3 rfl) ?_
                  refine gx_La_classes cx hX d_La_define_167 ?_
                  refine ll_callvi cx hA hX (c_Lc_size l D h cI cZ _ _ hG) (cw_La_132 cx.1.2.2.2.2 (ll_hR (by omega) (by decide))) (va_recv cx.2 hX.1 (ci := 2) (q0 := 2) rfl rfl) rfl hl.1 rfl (Nat.le_of_ble_eq_true rfl) d_La_define_170 ⟨Nat.zero_le _, Nat.zero_le _⟩ (fun r32 f33 H locs hG hX => ?_)
                  refine lv_bipush (v := 30) hx hb d_La_define_173 (by decide) ?_
                  refine lv_icmp_lt (tgt := 185) hx hb d_La_define_175 (by decide) (fun c34 => ?_) (fun c34 => ?_)
                  · have hG := hG.1 c34
                    refine lv_aload_n hx hb d_La_define_185 rfl (lv_at hl 3 rfl) ?_
                    refine gx_La_classes cx hX d_La_define_186 ?_
                    refine lv_iload_n hx hb d_La_define_189 rfl (lv_at hl 5 rfl) ?_
                    refine lv_iload_n hx hb d_La_define_190 rfl (lv_at hl 4 rfl) ?_
                    refine lv_iload hx hb d_La_define_191 (lv_at hl 1 rfl) ?_
                    refine lv_iload hx hb d_La_define_193 (lv_at hl 0 rfl) ?_
                    refine lv_iload hx hb d_La_define_195 (lv_at hl 2 rfl) ?_
                    refine ll_callvi cx hA hX (c_Lc_add l D h cI cZ _ _ _ _ _ _ _ hG) (cw_La_206 cx.1.2.2.2.2 (ll_hR (by omega) (by decide))) (va_recv cx.2 hX.1 (ci := 2) (q0 := 2) rfl rfl) rfl hl.1 rfl (Nat.le_of_ble_eq_true rfl) d_La_define_197 ⟨Nat.zero_le _, Nat.zero_le _⟩ (fun r35 f36 H locs hG hX => ?_)
                    exact ll_iret cx hr hlk hX hG d_La_define_200
                  · have hG := hG.2 c34
                    refine lv_aload_n hx hb d_La_define_178 rfl (lv_at hl 3 rfl) ?_
                    refine lv_bipush (v := (-2)) hx hb d_La_define_179 (by decide) ?_
                    refine ll_callvi cx hA hX (c_La_fail l D h cI cZ _ _ _ hG) (cw_La_154 cx.1.2.2.2.2 (ll_hR (by omega) (by decide))) (va_recv cx.2 hX.1 (ci := 0) (q0 := 0) rfl rfl) rfl hl.1 rfl (Nat.le_of_ble_eq_true rfl) d_La_define_181 ⟨Nat.zero_le _, Nat.zero_le _⟩ (fun r37 f38 H locs hG hX => ?_)
                    exact ll_iret cx hr hlk hX hG d_La_define_184
                · have hG := hG.2 c31
                  refine lv_aload_n hx hb d_La_define_159 rfl (lv_at hl 3 rfl) ?_
                  refine lv_bipush (v := (-8)) hx hb d_La_define_160 (by decide) ?_
                  refine ll_callvi cx hA hX (c_La_fail l D h cI cZ _ _ _ hG) (cw_La_154 cx.1.2.2.2.2 (ll_hR (by omega) (by decide))) (va_recv cx.2 hX.1 (ci := 0) (q0 := 0) rfl rfl) rfl hl.1 rfl (Nat.le_of_ble_eq_true rfl) d_La_define_162 ⟨Nat.zero_le _, Nat.zero_le _⟩ (fun r39 f40 H locs hG hX => ?_)
                  exact ll_iret cx hr hlk hX hG d_La_define_165
            · have hG := hG.2 c20
              refine lv_iload hx hb d_La_define_137 (lv_at hl 0 rfl) ?_
              exact ll_iret cx hr hlk hX hG d_La_define_139
          · have hG := hG.2 c15
            refine lv_aload_n hx hb d_La_define_94 rfl (lv_at hl 2 rfl) ?_
            refine gx_La_classes cx hX d_La_define_95 ?_
            refine lv_iload hx hb d_La_define_98 (lv_at hl 0 rfl) ?_
            refine ll_callvi cx hA hX (c_Lc_marksOf l D h cI cZ _ _ _ hG) (cw_La_126 cx.1.2.2.2.2 (ll_hR (by omega) (by decide))) (va_recv cx.2 hX.1 (ci := 2) (q0 := 2) rfl rfl) rfl hl.1 rfl (Nat.le_of_ble_eq_true rfl) d_La_define_100 ⟨Nat.zero_le _, Nat.zero_le _⟩ (fun r41 f42 H locs hG hX => ?_)
            refine lv_iconst (v := 3) hx hb d_La_define_103 (by decide) ?_
            refine lv_iand hx hb d_La_define_104 ?_
            refine lv_if_eq (tgt := 115) hx hb d_La_define_105 (by decide) (fun c43 => ?_) (fun c43 => ?_)
            · have hG := hG.1 c43
              refine lv_aload_n hx hb d_La_define_115 rfl (lv_at hl 2 rfl) ?_
              refine lv_iload_n hx hb d_La_define_116 rfl (lv_at hl 3 rfl) ?_
              refine lv_aload_n hx hb d_La_define_117 rfl (lv_at hl 2 rfl) ?_
              refine gx_La_loaders cx hX d_La_define_118 ?_
              refine lv_iload_n hx hb d_La_define_121 rfl (lv_at hl 3 rfl) ?_
              refine lv_iload_n hx hb d_La_define_122 rfl (lv_at hl 4 rfl) ?_
              refine ll_callvi cx hA hX (c_Lb_fileInterface l D h cI cZ _ _ _ _ hG) (cw_La_203 cx.1.2.2.2.2 (ll_hR (by omega) (by decide))) (va_recv cx.2 hX.1 (ci := 1) (q0 := 1) rfl rfl) rfl hl.1 rfl (Nat.le_of_ble_eq_true rfl) d_La_define_123 ⟨Nat.zero_le _, Nat.zero_le _⟩ (fun r44 f45 H locs hG hX => ?_)
              refine lv_iload_n hx hb d_La_define_126 rfl (lv_at hl 5 rfl) ?_
              refine ll_callvi cx hA hX (c_La_resolvePart l D h cI cZ rq rho hrho ihq _ _ _ _ _ hG) (cw_La_200 cx.1.2.2.2.2 (ll_hR (by omega) (by decide))) (va_recv cx.2 hX.1 (ci := 0) (q0 := 0) rfl rfl) rfl hl.1 rfl (Nat.le_of_ble_eq_true rfl) d_La_define_127 ⟨Nat.zero_le _, Nat.zero_le _⟩ (fun r46 f47 H locs hG hX => ?_)
              refine lv_istore (lv' := [(6, .int r46), (5, .int r12), (4, .int r4), (0, .ref (h 0)), (1, .int a1), (2, .int a2), (3, .int a3)]) hx hb d_La_define_130 hl (by decide) rfl (fun ls hl => ?_)
              refine lv_iload hx hb d_La_define_132 (lv_at hl 0 rfl) ?_
              refine lv_if_ge (tgt := 140) hx hb d_La_define_134 (by decide) (fun c48 => ?_) (fun c48 => ?_)
              · have hG := hG.1 c48
                refine lv_iload hx hb d_La_define_140 (lv_at hl 0 rfl) ?_
                refine lv_if_eq (tgt := 166) hx hb d_La_define_142 (by decide) (fun c49 => ?_) (fun c49 => ?_)
                · have hG := hG.1 c49
                  refine lv_aload_n hx hb d_La_define_166 rfl (lv_at hl 3 rfl) ?_
                  refine gx_La_classes cx hX d_La_define_167 ?_
                  refine ll_callvi cx hA hX (c_Lc_size l D h cI cZ _ _ hG) (cw_La_132 cx.1.2.2.2.2 (ll_hR (by omega) (by decide))) (va_recv cx.2 hX.1 (ci := 2) (q0 := 2) rfl rfl) rfl hl.1 rfl (Nat.le_of_ble_eq_true rfl) d_La_define_170 ⟨Nat.zero_le _, Nat.zero_le _⟩ (fun r50 f51 H locs hG hX => ?_)
                  refine lv_bipush (v := 30) hx hb d_La_define_173 (by decide) ?_
                  refine lv_icmp_lt (tgt := 185) hx hb d_La_define_175 (by decide) (fun c52 => ?_) (fun c52 => ?_)
                  · have hG := hG.1 c52
                    refine lv_aload_n hx hb d_La_define_185 rfl (lv_at hl 3 rfl) ?_
                    refine gx_La_classes cx hX d_La_define_186 ?_
                    refine lv_iload_n hx hb d_La_define_189 rfl (lv_at hl 5 rfl) ?_
                    refine lv_iload_n hx hb d_La_define_190 rfl (lv_at hl 4 rfl) ?_
                    refine lv_iload hx hb d_La_define_191 (lv_at hl 1 rfl) ?_
                    refine lv_iload hx hb d_La_define_193 (lv_at hl 0 rfl) ?_
                    refine lv_iload hx hb d_La_define_195 (lv_at hl 2 rfl) ?_
                    refine ll_callvi cx hA hX (c_Lc_add l D h cI cZ _ _ _ _ _ _ _ hG) (cw_La_206 cx.1.2.2.2.2 (ll_hR (by omega) (by decide))) (va_recv cx.2 hX.1 (ci := 2) (q0 := 2) rfl rfl) rfl hl.1 rfl (Nat.le_of_ble_eq_true rfl) d_La_define_197 ⟨Nat.zero_le _, Nat.zero_le _⟩ (fun r53 f54 H locs hG hX => ?_)
                    exact ll_iret cx hr hlk hX hG d_La_define_200
                  · have hG := hG.2 c52
                    refine lv_aload_n hx hb d_La_define_178 rfl (lv_at hl 3 rfl) ?_
                    refine lv_bipush (v := (-2)) hx hb d_La_define_179 (by decide) ?_
                    refine ll_callvi cx hA hX (c_La_fail l D h cI cZ _ _ _ hG) (cw_La_154 cx.1.2.2.2.2 (ll_hR (by omega) (by decide))) (va_recv cx.2 hX.1 (ci := 0) (q0 := 0) rfl rfl) rfl hl.1 rfl (Nat.le_of_ble_eq_true rfl) d_La_define_181 ⟨Nat.zero_le _, Nat.zero_le _⟩ (fun r55 f56 H locs hG hX => ?_)
                    exact ll_iret cx hr hlk hX hG d_La_define_184
                · have hG := hG.2 c49
                  refine lv_aload_n hx hb d_La_define_145 rfl (lv_at hl 3 rfl) ?_
                  refine gx_La_classes cx hX d_La_define_146 ?_
                  refine lv_iload hx hb d_La_define_149 (lv_at hl 0 rfl) ?_
                  refine ll_callvi cx hA hX (c_Lc_marksOf l D h cI cZ _ _ _ hG) (cw_La_126 cx.1.2.2.2.2 (ll_hR (by omega) (by decide))) (va_recv cx.2 hX.1 (ci := 2) (q0 := 2) rfl rfl) rfl hl.1 rfl (Nat.le_of_ble_eq_true rfl) d_La_define_151 ⟨Nat.zero_le _, Nat.zero_le _⟩ (fun r57 f58 H locs hG hX => ?_)
                  refine lv_iconst (v := 1) hx hb d_La_define_154 (by decide) ?_
                  refine lv_iand hx hb d_La_define_155 ?_
                  refine lv_if_ne (tgt := 166) hx hb d_La_define_156 (by decide) (fun c59 => ?_) (fun c59 => ?_)
                  · have hG := hG.1 c59
                    refine lv_aload_n hx hb d_La_define_166 rfl (lv_at hl 3 rfl) ?_
                    refine gx_La_classes cx hX d_La_define_167 ?_
                    refine ll_callvi cx hA hX (c_Lc_size l D h cI cZ _ _ hG) (cw_La_132 cx.1.2.2.2.2 (ll_hR (by omega) (by decide))) (va_recv cx.2 hX.1 (ci := 2) (q0 := 2) rfl rfl) rfl hl.1 rfl (Nat.le_of_ble_eq_true rfl) d_La_define_170 ⟨Nat.zero_le _, Nat.zero_le _⟩ (fun r60 f61 H locs hG hX => ?_)
                    refine lv_bipush (v := 30) hx hb d_La_define_173 (by decide) ?_
                    refine lv_icmp_lt (tgt := 185) hx hb d_La_define_175 (by decide) (fun c62 => ?_) (fun c62 => ?_)
                    · have hG := hG.1 c62
                      refine lv_aload_n hx hb d_La_define_185 rfl (lv_at hl 3 rfl) ?_
                      refine gx_La_classes cx hX d_La_define_186 ?_
                      refine lv_iload_n hx hb d_La_define_189 rfl (lv_at hl 5 rfl) ?_
                      refine lv_iload_n hx hb d_La_define_190 rfl (lv_at hl 4 rfl) ?_
                      refine lv_iload hx hb d_La_define_191 (lv_at hl 1 rfl) ?_
                      refine lv_iload hx hb d_La_define_193 (lv_at hl 0 rfl) ?_
                      refine lv_iload hx hb d_La_define_195 (lv_at hl 2 rfl) ?_
                      refine ll_callvi cx hA hX (c_Lc_add l D h cI cZ _ _ _ _ _ _ _ hG) (cw_La_206 cx.1.2.2.2.2 (ll_hR (by omega) (by decide))) (va_recv cx.2 hX.1 (ci := 2) (q0 := 2) rfl rfl) rfl hl.1 rfl (Nat.le_of_ble_eq_true rfl) d_La_define_197 ⟨Nat.zero_le _, Nat.zero_le _⟩ (fun r63 f64 H locs hG hX => ?_)
                      exact ll_iret cx hr hlk hX hG d_La_define_200
                    · have hG := hG.2 c62
                      refine lv_aload_n hx hb d_La_define_178 rfl (lv_at hl 3 rfl) ?_
                      refine lv_bipush (v := (-2)) hx hb d_La_define_179 (by decide) ?_
                      refine ll_callvi cx hA hX (c_La_fail l D h cI cZ _ _ _ hG) (cw_La_154 cx.1.2.2.2.2 (ll_hR (by omega) (by decide))) (va_recv cx.2 hX.1 (ci := 0) (q0 := 0) rfl rfl) rfl hl.1 rfl (Nat.le_of_ble_eq_true rfl) d_La_define_181 ⟨Nat.zero_le _, Nat.zero_le _⟩ (fun r65 f66 H locs hG hX => ?_)
                      exact ll_iret cx hr hlk hX hG d_La_define_184
                  · have hG := hG.2 c59
                    refine lv_aload_n hx hb d_La_define_159 rfl (lv_at hl 3 rfl) ?_
                    refine lv_bipush (v := (-8)) hx hb d_La_define_160 (by decide) ?_
                    refine ll_callvi cx hA hX (c_La_fail l D h cI cZ _ _ _ hG) (cw_La_154 cx.1.2.2.2.2 (ll_hR (by omega) (by decide))) (va_recv cx.2 hX.1 (ci := 0) (q0 := 0) rfl rfl) rfl hl.1 rfl (Nat.le_of_ble_eq_true rfl) d_La_define_162 ⟨Nat.zero_le _, Nat.zero_le _⟩ (fun r67 f68 H locs hG hX => ?_)
                    exact ll_iret cx hr hlk hX hG d_La_define_165
              · have hG := hG.2 c48
                refine lv_iload hx hb d_La_define_137 (lv_at hl 0 rfl) ?_
                exact ll_iret cx hr hlk hX hG d_La_define_139
            · have hG := hG.2 c43
              refine lv_aload_n hx hb d_La_define_108 rfl (lv_at hl 2 rfl) ?_
              refine lv_bipush (v := (-8)) hx hb d_La_define_109 (by decide) ?_
              refine ll_callvi cx hA hX (c_La_fail l D h cI cZ _ _ _ hG) (cw_La_154 cx.1.2.2.2.2 (ll_hR (by omega) (by decide))) (va_recv cx.2 hX.1 (ci := 0) (q0 := 0) rfl rfl) rfl hl.1 rfl (Nat.le_of_ble_eq_true rfl) d_La_define_111 ⟨Nat.zero_le _, Nat.zero_le _⟩ (fun r69 f70 H locs hG hX => ?_)
              exact ll_iret cx hr hlk hX hG d_La_define_114
        · have hG := hG.2 c14
          refine lv_iload hx hb d_La_define_86 (lv_at hl 0 rfl) ?_
          exact ll_iret cx hr hlk hX hG d_La_define_88
      · have hG := hG.2 c9
        refine lv_aload_n hx hb d_La_define_57 rfl (lv_at hl 1 rfl) ?_
        refine lv_bipush (v := (-5)) hx hb d_La_define_58 (by decide) ?_
        refine ll_callvi cx hA hX (c_La_fail l D h cI cZ _ _ _ hG) (cw_La_154 cx.1.2.2.2.2 (ll_hR (by omega) (by decide))) (va_recv cx.2 hX.1 (ci := 0) (q0 := 0) rfl rfl) rfl hl.1 rfl (Nat.le_of_ble_eq_true rfl) d_La_define_60 ⟨Nat.zero_le _, Nat.zero_le _⟩ (fun r71 f72 H locs hG hX => ?_)
        exact ll_iret cx hr hlk hX hG d_La_define_63
    · have hG := hG.2 c6
      refine lv_aload_n hx hb d_La_define_37 rfl (lv_at hl 1 rfl) ?_
      refine lv_bipush (v := (-6)) hx hb d_La_define_38 (by decide) ?_
      refine ll_callvi cx hA hX (c_La_fail l D h cI cZ _ _ _ hG) (cw_La_154 cx.1.2.2.2.2 (ll_hR (by omega) (by decide))) (va_recv cx.2 hX.1 (ci := 0) (q0 := 0) rfl rfl) rfl hl.1 rfl (Nat.le_of_ble_eq_true rfl) d_La_define_40 ⟨Nat.zero_le _, Nat.zero_le _⟩ (fun r73 f74 H locs hG hX => ?_)
      exact ll_iret cx hr hlk hX hG d_La_define_43
  · have hG := hG.2 c3
    refine lv_aload_n hx hb d_La_define_12 rfl (lv_at hl 0 rfl) ?_
    refine lv_bipush (v := (-3)) hx hb d_La_define_13 (by decide) ?_
    refine ll_callvi cx hA hX (c_La_fail l D h cI cZ _ _ _ hG) (cw_La_154 cx.1.2.2.2.2 (ll_hR (by omega) (by decide))) (va_recv cx.2 hX.1 (ci := 0) (q0 := 0) rfl rfl) rfl hl.1 rfl (Nat.le_of_ble_eq_true rfl) d_La_define_15 ⟨Nat.zero_le _, Nat.zero_le _⟩ (fun r75 f76 H locs hG hX => ?_)
    exact ll_iret cx hr hlk hX hG d_La_define_18
def G_La_askParentThenDefine (rq : ll_S → Int32 → Int32 → Int32 → (Int32 → ll_S → Prop) → Prop) (f : ll_S) (a1 : Int32) (a2 : Int32) (a3 : Int32) (K : Int32 → ll_S → Prop) : Prop := (G_La_askParent rq f a1 a2 a3 (fun r1 f2 => ((¬ r1 = (-3 : Int32) → K r1 f2) ∧ (r1 = (-3 : Int32) → (G_La_define rq f2 a1 a2 a3 (fun r4 f5 => K r4 f5))))))
set_option maxHeartbeats 4000000 in
set_option maxRecDepth 100000 in
theorem c_La_askParentThenDefine (l : Launch) (D : va_G) (h : Nat → Nat) (cI cZ : ClassId) (rq : ll_S → Int32 → Int32 → Int32 → (Int32 → ll_S → Prop) → Prop) (rho : Nat) (hrho : 12 ≤ rho) (ihq : ∀ (f : ll_S) (a1 a2 a3 : Int32) (K : Int32 → ll_S → Prop), rq f a1 a2 a3 K → ll_Mi l y_La_request (Cond.code y_La_request b_La_request 6 (some .int) :: ll_xt) (ll_rk rho) D [(cI, .int), (cZ, .boolean)] (wd_X h cI cZ) [.ref (h 0), .int a1, .int a2, .int a3] f K) (f : ll_S) (a1 : Int32) (a2 : Int32) (a3 : Int32) (K : Int32 → ll_S → Prop) (hG : G_La_askParentThenDefine rq f a1 a2 a3 K) : ll_Mi l y_La_askParentThenDefine (Cond.code y_La_askParentThenDefine b_La_askParentThenDefine 5 (some .int) :: ll_xt) (ll_rk (rho + 4)) D [(cI, .int), (cZ, .boolean)] (wd_X h cI cZ) [.ref (h 0), .int a1, .int a2, .int a3] f K := by
  refine ll_starti (own := "LoaderLab") (by decide) rfl (Nat.le_of_ble_eq_true rfl) (fun p e s m below meth c ls cx hr hlk hA hX hl => ?_)
  have hl : lv_has ls 5 [(0, .ref (h 0)), (1, .int a1), (2, .int a2), (3, .int a3)] := hl
  obtain ⟨⟨hx, hb, -, -, -⟩, -⟩ := id cx
  unfold G_La_askParentThenDefine at hG
  refine lv_aload_n hx hb d_La_askParentThenDefine_0 rfl (lv_at hl 0 rfl) ?_
  refine lv_iload_n hx hb d_La_askParentThenDefine_1 rfl (lv_at hl 1 rfl) ?_
  refine lv_iload_n hx hb d_La_askParentThenDefine_2 rfl (lv_at hl 2 rfl) ?_
  refine lv_iload_n hx hb d_La_askParentThenDefine_3 rfl (lv_at hl 3 rfl) ?_
  refine ll_callvi cx hA hX (c_La_askParent l D h cI cZ rq rho hrho ihq _ _ _ _ _ hG) (cw_La_182 cx.1.2.2.2.2 (ll_hR (by omega) (by decide))) (va_recv cx.2 hX.1 (ci := 0) (q0 := 0) rfl rfl) rfl hl.1 rfl (Nat.le_of_ble_eq_true rfl) d_La_askParentThenDefine_4 ⟨Nat.zero_le _, Nat.zero_le _⟩ (fun r1 f2 H locs hG hX => ?_)
  refine lv_istore (lv' := [(4, .int r1), (0, .ref (h 0)), (1, .int a1), (2, .int a2), (3, .int a3)]) hx hb d_La_askParentThenDefine_7 hl (by decide) rfl (fun ls hl => ?_)
  refine lv_iload hx hb d_La_askParentThenDefine_9 (lv_at hl 0 rfl) ?_
  refine lv_bipush (v := (-3)) hx hb d_La_askParentThenDefine_11 (by decide) ?_
  refine lv_icmp_ne (tgt := 26) hx hb d_La_askParentThenDefine_13 (by decide) (fun c3 => ?_) (fun c3 => ?_)
  · have hG := hG.1 c3
    refine lv_iload hx hb d_La_askParentThenDefine_26 (lv_at hl 0 rfl) ?_
    exact ll_iret cx hr hlk hX hG d_La_askParentThenDefine_28
  · have hG := hG.2 c3
    refine lv_aload_n hx hb d_La_askParentThenDefine_16 rfl (lv_at hl 1 rfl) ?_
    refine lv_iload_n hx hb d_La_askParentThenDefine_17 rfl (lv_at hl 2 rfl) ?_
    refine lv_iload_n hx hb d_La_askParentThenDefine_18 rfl (lv_at hl 3 rfl) ?_
    refine lv_iload_n hx hb d_La_askParentThenDefine_19 rfl (lv_at hl 4 rfl) ?_
    refine ll_callvi cx hA hX (c_La_define l D h cI cZ rq rho hrho ihq _ _ _ _ _ hG) (cw_La_179 cx.1.2.2.2.2 (ll_hR (by omega) (by decide))) (va_recv cx.2 hX.1 (ci := 0) (q0 := 0) rfl rfl) rfl hl.1 rfl (Nat.le_of_ble_eq_true rfl) d_La_askParentThenDefine_20 ⟨Nat.zero_le _, Nat.zero_le _⟩ (fun r4 f5 H locs hG hX => ?_)
    refine lv_goto (tgt := 28) hx hb d_La_askParentThenDefine_23 (by decide) ?_
    exact ll_iret cx hr hlk hX hG d_La_askParentThenDefine_28
def G_La_followScript (rq : ll_S → Int32 → Int32 → Int32 → (Int32 → ll_S → Prop) → Prop) (f : ll_S) (a1 : Int32) (a2 : Int32) (a3 : Int32) (K : Int32 → ll_S → Prop) : Prop := (G_Lb_scriptNumber f a1 a2 (fun r1 f2 => (G_Lb_scriptWay f2 a1 a2 (fun r3 f4 => ((r3 = 1 → (G_Lb_hasFile f4 a1 a2 (fun r6 f7 => ((r6 = 0 → (G_La_askParent rq f7 a1 a2 a3 (fun r9 f10 => K r9 f10))) ∧ (¬ r6 = 0 → (G_La_define rq f7 a1 a2 a3 (fun r11 f12 => K r11 f12))))))) ∧ (¬ r3 = 1 → ((r3 = 2 → (rq f4 r1 a2 (a3 + 1) (fun r14 f15 => K r14 f15))) ∧ (¬ r3 = 2 → ((r3 = 3 → (rq f4 a1 r1 (a3 + 1) (fun r17 f18 => K r17 f18))) ∧ (¬ r3 = 3 → ((r3 = 4 → K 0 f4) ∧ (¬ r3 = 4 → ((r3 = 5 → (G_La_fail f4 (-11) (fun r21 f22 => K r21 f22))) ∧ (¬ r3 = 5 → ((r3 = 6 → (rq f4 a1 r1 (a3 + 1) (fun r24 f25 => ((0 ≤ r24 → (G_La_askParentThenDefine rq f25 a1 a2 a3 (fun r27 f28 => K r27 f28))) ∧ (¬ 0 ≤ r24 → K r24 f25))))) ∧ (¬ r3 = 6 → (G_La_askParentThenDefine rq f4 a1 a2 a3 (fun r29 f30 => K r29 f30))))))))))))))))))
set_option maxHeartbeats 4000000 in
set_option maxRecDepth 100000 in
theorem c_La_followScript (l : Launch) (D : va_G) (h : Nat → Nat) (cI cZ : ClassId) (rq : ll_S → Int32 → Int32 → Int32 → (Int32 → ll_S → Prop) → Prop) (rho : Nat) (hrho : 12 ≤ rho) (ihq : ∀ (f : ll_S) (a1 a2 a3 : Int32) (K : Int32 → ll_S → Prop), rq f a1 a2 a3 K → ll_Mi l y_La_request (Cond.code y_La_request b_La_request 6 (some .int) :: ll_xt) (ll_rk rho) D [(cI, .int), (cZ, .boolean)] (wd_X h cI cZ) [.ref (h 0), .int a1, .int a2, .int a3] f K) (f : ll_S) (a1 : Int32) (a2 : Int32) (a3 : Int32) (K : Int32 → ll_S → Prop) (hG : G_La_followScript rq f a1 a2 a3 K) : ll_Mi l y_La_followScript (Cond.code y_La_followScript b_La_followScript 6 (some .int) :: ll_xt) (ll_rk (rho + 5)) D [(cI, .int), (cZ, .boolean)] (wd_X h cI cZ) [.ref (h 0), .int a1, .int a2, .int a3] f K := by
  refine ll_starti (own := "LoaderLab") (by decide) rfl (Nat.le_of_ble_eq_true rfl) (fun p e s m below meth c ls cx hr hlk hA hX hl => ?_)
  have hl : lv_has ls 6 [(0, .ref (h 0)), (1, .int a1), (2, .int a2), (3, .int a3)] := hl
  obtain ⟨⟨hx, hb, -, -, -⟩, -⟩ := id cx
  unfold G_La_followScript at hG
  refine lv_aload_n hx hb d_La_followScript_0 rfl (lv_at hl 0 rfl) ?_
  refine gx_La_loaders cx hX d_La_followScript_1 ?_
  refine lv_iload_n hx hb d_La_followScript_4 rfl (lv_at hl 1 rfl) ?_
  refine lv_iload_n hx hb d_La_followScript_5 rfl (lv_at hl 2 rfl) ?_
  refine ll_callvi cx hA hX (c_Lb_scriptNumber l D h cI cZ _ _ _ _ hG) (cw_La_173 cx.1.2.2.2.2 (ll_hR (by omega) (by decide))) (va_recv cx.2 hX.1 (ci := 1) (q0 := 1) rfl rfl) rfl hl.1 rfl (Nat.le_of_ble_eq_true rfl) d_La_followScript_6 ⟨Nat.zero_le _, Nat.zero_le _⟩ (fun r1 f2 H locs hG hX => ?_)
  refine lv_istore (lv' := [(4, .int r1), (0, .ref (h 0)), (1, .int a1), (2, .int a2), (3, .int a3)]) hx hb d_La_followScript_9 hl (by decide) rfl (fun ls hl => ?_)
  refine lv_aload_n hx hb d_La_followScript_11 rfl (lv_at hl 1 rfl) ?_
  refine gx_La_loaders cx hX d_La_followScript_12 ?_
  refine lv_iload_n hx hb d_La_followScript_15 rfl (lv_at hl 2 rfl) ?_
  refine lv_iload_n hx hb d_La_followScript_16 rfl (lv_at hl 3 rfl) ?_
  refine ll_callvi cx hA hX (c_Lb_scriptWay l D h cI cZ _ _ _ _ hG) (cw_La_176 cx.1.2.2.2.2 (ll_hR (by omega) (by decide))) (va_recv cx.2 hX.1 (ci := 1) (q0 := 1) rfl rfl) rfl hl.1 rfl (Nat.le_of_ble_eq_true rfl) d_La_followScript_17 ⟨Nat.zero_le _, Nat.zero_le _⟩ (fun r3 f4 H locs hG hX => ?_)
  by_cases c5 : r3 = 1
  · refine lv_tableIn (tgt := 60) hx hb d_La_followScript_20 (by rw [c5]; decide) (by rw [c5]; decide) (by rw [c5]; rfl) (by decide) ?_
    have hG := hG.1 c5
    refine lv_aload_n hx hb d_La_followScript_60 rfl (lv_at hl 1 rfl) ?_
    refine gx_La_loaders cx hX d_La_followScript_61 ?_
    refine lv_iload_n hx hb d_La_followScript_64 rfl (lv_at hl 2 rfl) ?_
    refine lv_iload_n hx hb d_La_followScript_65 rfl (lv_at hl 3 rfl) ?_
    refine ll_callvi cx hA hX (c_Lb_hasFile l D h cI cZ _ _ _ _ hG) (cw_La_51 cx.1.2.2.2.2 (ll_hR (by omega) (by decide))) (va_recv cx.2 hX.1 (ci := 1) (q0 := 1) rfl rfl) rfl hl.1 rfl (Nat.le_of_ble_eq_true rfl) d_La_followScript_66 ⟨Nat.zero_le _, Nat.zero_le _⟩ (fun r6 f7 H locs hG hX => ?_)
    refine lv_if_eq (tgt := 82) hx hb d_La_followScript_69 (by decide) (fun c8 => ?_) (fun c8 => ?_)
    · have hG := hG.1 c8
      refine lv_aload_n hx hb d_La_followScript_82 rfl (lv_at hl 1 rfl) ?_
      refine lv_iload_n hx hb d_La_followScript_83 rfl (lv_at hl 2 rfl) ?_
      refine lv_iload_n hx hb d_La_followScript_84 rfl (lv_at hl 3 rfl) ?_
      refine lv_iload_n hx hb d_La_followScript_85 rfl (lv_at hl 4 rfl) ?_
      refine ll_callvi cx hA hX (c_La_askParent l D h cI cZ rq rho hrho ihq _ _ _ _ _ hG) (cw_La_182 cx.1.2.2.2.2 (ll_hR (by omega) (by decide))) (va_recv cx.2 hX.1 (ci := 0) (q0 := 0) rfl rfl) rfl hl.1 rfl (Nat.le_of_ble_eq_true rfl) d_La_followScript_86 ⟨Nat.zero_le _, Nat.zero_le _⟩ (fun r9 f10 H locs hG hX => ?_)
      exact ll_iret cx hr hlk hX hG d_La_followScript_89
    · have hG := hG.2 c8
      refine lv_aload_n hx hb d_La_followScript_72 rfl (lv_at hl 1 rfl) ?_
      refine lv_iload_n hx hb d_La_followScript_73 rfl (lv_at hl 2 rfl) ?_
      refine lv_iload_n hx hb d_La_followScript_74 rfl (lv_at hl 3 rfl) ?_
      refine lv_iload_n hx hb d_La_followScript_75 rfl (lv_at hl 4 rfl) ?_
      refine ll_callvi cx hA hX (c_La_define l D h cI cZ rq rho hrho ihq _ _ _ _ _ hG) (cw_La_179 cx.1.2.2.2.2 (ll_hR (by omega) (by decide))) (va_recv cx.2 hX.1 (ci := 0) (q0 := 0) rfl rfl) rfl hl.1 rfl (Nat.le_of_ble_eq_true rfl) d_La_followScript_76 ⟨Nat.zero_le _, Nat.zero_le _⟩ (fun r11 f12 H locs hG hX => ?_)
      refine lv_goto (tgt := 89) hx hb d_La_followScript_79 (by decide) ?_
      exact ll_iret cx hr hlk hX hG d_La_followScript_89
  replace hG := hG.2 c5
  by_cases c13 : r3 = 2
  · refine lv_tableIn (tgt := 90) hx hb d_La_followScript_20 (by rw [c13]; decide) (by rw [c13]; decide) (by rw [c13]; rfl) (by decide) ?_
    have hG := hG.1 c13
    refine lv_aload_n hx hb d_La_followScript_90 rfl (lv_at hl 1 rfl) ?_
    refine lv_iload hx hb d_La_followScript_91 (lv_at hl 0 rfl) ?_
    refine lv_iload_n hx hb d_La_followScript_93 rfl (lv_at hl 3 rfl) ?_
    refine lv_iload_n hx hb d_La_followScript_94 rfl (lv_at hl 4 rfl) ?_
    refine lv_iconst (v := 1) hx hb d_La_followScript_95 (by decide) ?_
    refine lv_iadd hx hb d_La_followScript_96 ?_
    refine ll_callvi cx hA hX (ihq _ _ _ _ _ hG) (cw_La_63 cx.1.2.2.2.2 (ll_hR (by omega) (by decide))) (va_recv cx.2 hX.1 (ci := 0) (q0 := 0) rfl rfl) rfl hl.1 rfl (Nat.le_of_ble_eq_true rfl) d_La_followScript_97 ⟨Nat.zero_le _, Nat.zero_le _⟩ (fun r14 f15 H locs hG hX => ?_)
    exact ll_iret cx hr hlk hX hG d_La_followScript_100
  replace hG := hG.2 c13
  by_cases c16 : r3 = 3
  · refine lv_tableIn (tgt := 101) hx hb d_La_followScript_20 (by rw [c16]; decide) (by rw [c16]; decide) (by rw [c16]; rfl) (by decide) ?_
    have hG := hG.1 c16
    refine lv_aload_n hx hb d_La_followScript_101 rfl (lv_at hl 1 rfl) ?_
    refine lv_iload_n hx hb d_La_followScript_102 rfl (lv_at hl 2 rfl) ?_
    refine lv_iload hx hb d_La_followScript_103 (lv_at hl 0 rfl) ?_
    refine lv_iload_n hx hb d_La_followScript_105 rfl (lv_at hl 4 rfl) ?_
    refine lv_iconst (v := 1) hx hb d_La_followScript_106 (by decide) ?_
    refine lv_iadd hx hb d_La_followScript_107 ?_
    refine ll_callvi cx hA hX (ihq _ _ _ _ _ hG) (cw_La_63 cx.1.2.2.2.2 (ll_hR (by omega) (by decide))) (va_recv cx.2 hX.1 (ci := 0) (q0 := 0) rfl rfl) rfl hl.1 rfl (Nat.le_of_ble_eq_true rfl) d_La_followScript_108 ⟨Nat.zero_le _, Nat.zero_le _⟩ (fun r17 f18 H locs hG hX => ?_)
    exact ll_iret cx hr hlk hX hG d_La_followScript_111
  replace hG := hG.2 c16
  by_cases c19 : r3 = 4
  · refine lv_tableIn (tgt := 112) hx hb d_La_followScript_20 (by rw [c19]; decide) (by rw [c19]; decide) (by rw [c19]; rfl) (by decide) ?_
    have hG := hG.1 c19
    refine lv_iconst (v := 0) hx hb d_La_followScript_112 (by decide) ?_
    exact ll_iret cx hr hlk hX hG d_La_followScript_113
  replace hG := hG.2 c19
  by_cases c20 : r3 = 5
  · refine lv_tableIn (tgt := 114) hx hb d_La_followScript_20 (by rw [c20]; decide) (by rw [c20]; decide) (by rw [c20]; rfl) (by decide) ?_
    have hG := hG.1 c20
    refine lv_aload_n hx hb d_La_followScript_114 rfl (lv_at hl 1 rfl) ?_
    refine lv_bipush (v := (-11)) hx hb d_La_followScript_115 (by decide) ?_
    refine ll_callvi cx hA hX (c_La_fail l D h cI cZ _ _ _ hG) (cw_La_154 cx.1.2.2.2.2 (ll_hR (by omega) (by decide))) (va_recv cx.2 hX.1 (ci := 0) (q0 := 0) rfl rfl) rfl hl.1 rfl (Nat.le_of_ble_eq_true rfl) d_La_followScript_117 ⟨Nat.zero_le _, Nat.zero_le _⟩ (fun r21 f22 H locs hG hX => ?_)
    exact ll_iret cx hr hlk hX hG d_La_followScript_120
  replace hG := hG.2 c20
  by_cases c23 : r3 = 6
  · refine lv_tableIn (tgt := 121) hx hb d_La_followScript_20 (by rw [c23]; decide) (by rw [c23]; decide) (by rw [c23]; rfl) (by decide) ?_
    have hG := hG.1 c23
    refine lv_aload_n hx hb d_La_followScript_121 rfl (lv_at hl 1 rfl) ?_
    refine lv_iload_n hx hb d_La_followScript_122 rfl (lv_at hl 2 rfl) ?_
    refine lv_iload hx hb d_La_followScript_123 (lv_at hl 0 rfl) ?_
    refine lv_iload_n hx hb d_La_followScript_125 rfl (lv_at hl 4 rfl) ?_
    refine lv_iconst (v := 1) hx hb d_La_followScript_126 (by decide) ?_
    refine lv_iadd hx hb d_La_followScript_127 ?_
    refine ll_callvi cx hA hX (ihq _ _ _ _ _ hG) (cw_La_63 cx.1.2.2.2.2 (ll_hR (by omega) (by decide))) (va_recv cx.2 hX.1 (ci := 0) (q0 := 0) rfl rfl) rfl hl.1 rfl (Nat.le_of_ble_eq_true rfl) d_La_followScript_128 ⟨Nat.zero_le _, Nat.zero_le _⟩ (fun r24 f25 H locs hG hX => ?_)
    refine lv_istore (lv' := [(5, .int r24), (4, .int r1), (0, .ref (h 0)), (1, .int a1), (2, .int a2), (3, .int a3)]) hx hb d_La_followScript_131 hl (by decide) rfl (fun ls hl => ?_)
    refine lv_iload hx hb d_La_followScript_133 (lv_at hl 0 rfl) ?_
    refine lv_if_ge (tgt := 143) hx hb d_La_followScript_135 (by decide) (fun c26 => ?_) (fun c26 => ?_)
    · have hG := hG.1 c26
      refine lv_aload_n hx hb d_La_followScript_143 rfl (lv_at hl 2 rfl) ?_
      refine lv_iload_n hx hb d_La_followScript_144 rfl (lv_at hl 3 rfl) ?_
      refine lv_iload_n hx hb d_La_followScript_145 rfl (lv_at hl 4 rfl) ?_
      refine lv_iload_n hx hb d_La_followScript_146 rfl (lv_at hl 5 rfl) ?_
      refine ll_callvi cx hA hX (c_La_askParentThenDefine l D h cI cZ rq rho hrho ihq _ _ _ _ _ hG) (cw_La_185 cx.1.2.2.2.2 (ll_hR (by omega) (by decide))) (va_recv cx.2 hX.1 (ci := 0) (q0 := 0) rfl rfl) rfl hl.1 rfl (Nat.le_of_ble_eq_true rfl) d_La_followScript_147 ⟨Nat.zero_le _, Nat.zero_le _⟩ (fun r27 f28 H locs hG hX => ?_)
      exact ll_iret cx hr hlk hX hG d_La_followScript_150
    · have hG := hG.2 c26
      refine lv_iload hx hb d_La_followScript_138 (lv_at hl 0 rfl) ?_
      refine lv_goto (tgt := 150) hx hb d_La_followScript_140 (by decide) ?_
      exact ll_iret cx hr hlk hX hG d_La_followScript_150
  replace hG := hG.2 c23
  refine lv_tableOut (tgt := 151) hx hb d_La_followScript_20 (by have := lv_neT c5 (a := 1) (by decide); have := lv_neT c13 (a := 2) (by decide); have := lv_neT c16 (a := 3) (by decide); have := lv_neT c19 (a := 4) (by decide); have := lv_neT c20 (a := 5) (by decide); have := lv_neT c23 (a := 6) (by decide); omega) (by decide) ?_
  refine lv_aload_n hx hb d_La_followScript_151 rfl (lv_at hl 1 rfl) ?_
  refine lv_iload_n hx hb d_La_followScript_152 rfl (lv_at hl 2 rfl) ?_
  refine lv_iload_n hx hb d_La_followScript_153 rfl (lv_at hl 3 rfl) ?_
  refine lv_iload_n hx hb d_La_followScript_154 rfl (lv_at hl 4 rfl) ?_
  refine ll_callvi cx hA hX (c_La_askParentThenDefine l D h cI cZ rq rho hrho ihq _ _ _ _ _ hG) (cw_La_185 cx.1.2.2.2.2 (ll_hR (by omega) (by decide))) (va_recv cx.2 hX.1 (ci := 0) (q0 := 0) rfl rfl) rfl hl.1 rfl (Nat.le_of_ble_eq_true rfl) d_La_followScript_155 ⟨Nat.zero_le _, Nat.zero_le _⟩ (fun r29 f30 H locs hG hX => ?_)
  exact ll_iret cx hr hlk hX hG d_La_followScript_158
def G_La_request (rq : ll_S → Int32 → Int32 → Int32 → (Int32 → ll_S → Prop) → Prop) (f : ll_S) (a1 : Int32) (a2 : Int32) (a3 : Int32) (K : Int32 → ll_S → Prop) : Prop := (∀ f1, f1 = ll_w f 17 0 ((f 17 0) + 1) → (G_Lb_recordOf f1 a1 a2 (fun r2 f3 => ((r2 = 0 → (G_Lb_isUnderWay f3 a1 a2 (fun r5 f6 => ((¬ r5 = 0 → (G_La_fail f6 (-10) (fun r8 f9 => K r8 f9))) ∧ (r5 = 0 → ((a3 < (40 : Int32) → (G_Lb_setUnderWay f6 a1 a2 1 (fun f12 => (G_La_followScript rq f12 a1 a2 a3 (fun r13 f14 => (G_Lb_setUnderWay f14 a1 a2 0 (fun f16 => ((0 ≤ r13 → (G_La_accept f16 a1 a2 r13 (fun r18 f19 => K r18 f19))) ∧ (¬ 0 ≤ r13 → K r13 f16))))))))) ∧ (¬ a3 < (40 : Int32) → (G_La_fail f6 (-10) (fun r20 f21 => K r20 f21))))))))) ∧ (¬ r2 = 0 → K r2 f3)))))
set_option maxHeartbeats 4000000 in
set_option maxRecDepth 100000 in
theorem c_La_request (l : Launch) (D : va_G) (h : Nat → Nat) (cI cZ : ClassId) (rq : ll_S → Int32 → Int32 → Int32 → (Int32 → ll_S → Prop) → Prop) (rho : Nat) (hrho : 12 ≤ rho) (ihq : ∀ (f : ll_S) (a1 a2 a3 : Int32) (K : Int32 → ll_S → Prop), rq f a1 a2 a3 K → ll_Mi l y_La_request (Cond.code y_La_request b_La_request 6 (some .int) :: ll_xt) (ll_rk rho) D [(cI, .int), (cZ, .boolean)] (wd_X h cI cZ) [.ref (h 0), .int a1, .int a2, .int a3] f K) (f : ll_S) (a1 : Int32) (a2 : Int32) (a3 : Int32) (K : Int32 → ll_S → Prop) (hG : G_La_request rq f a1 a2 a3 K) : ll_Mi l y_La_request (Cond.code y_La_request b_La_request 6 (some .int) :: ll_xt) (ll_rk (rho + 6)) D [(cI, .int), (cZ, .boolean)] (wd_X h cI cZ) [.ref (h 0), .int a1, .int a2, .int a3] f K := by
  refine ll_starti (own := "LoaderLab") (by decide) rfl (Nat.le_of_ble_eq_true rfl) (fun p e s m below meth c ls cx hr hlk hA hX hl => ?_)
  have hl : lv_has ls 6 [(0, .ref (h 0)), (1, .int a1), (2, .int a2), (3, .int a3)] := hl
  obtain ⟨⟨hx, hb, -, -, -⟩, -⟩ := id cx
  unfold G_La_request at hG
  refine lv_aload_n hx hb d_La_request_0 rfl (lv_at hl 0 rfl) ?_
  refine lv_dup hx hb d_La_request_1 rfl ?_
  refine gx_La_begun cx hX d_La_request_2 ?_
  refine lv_iconst (v := 1) hx hb d_La_request_5 (by decide) ?_
  refine lv_iadd hx hb d_La_request_6 ?_
  refine px_La_begun cx hX d_La_request_7 (fun f1 ef1 H locs hX => ?_)
  replace hG := hG f1 ef1
  refine lv_aload_n hx hb d_La_request_10 rfl (lv_at hl 0 rfl) ?_
  refine gx_La_loaders cx hX d_La_request_11 ?_
  refine lv_iload_n hx hb d_La_request_14 rfl (lv_at hl 1 rfl) ?_
  refine lv_iload_n hx hb d_La_request_15 rfl (lv_at hl 2 rfl) ?_
  refine ll_callvi cx hA hX (c_Lb_recordOf l D h cI cZ _ _ _ _ hG) (cw_La_111 cx.1.2.2.2.2 (ll_hR (by omega) (by decide))) (va_recv cx.2 hX.1 (ci := 1) (q0 := 1) rfl rfl) rfl hl.1 rfl (Nat.le_of_ble_eq_true rfl) d_La_request_16 ⟨Nat.zero_le _, Nat.zero_le _⟩ (fun r2 f3 H locs hG hX => ?_)
  refine lv_istore (lv' := [(4, .int r2), (0, .ref (h 0)), (1, .int a1), (2, .int a2), (3, .int a3)]) hx hb d_La_request_19 hl (by decide) rfl (fun ls hl => ?_)
  refine lv_iload hx hb d_La_request_21 (lv_at hl 0 rfl) ?_
  refine lv_if_eq (tgt := 29) hx hb d_La_request_23 (by decide) (fun c4 => ?_) (fun c4 => ?_)
  · have hG := hG.1 c4
    refine lv_aload_n hx hb d_La_request_29 rfl (lv_at hl 1 rfl) ?_
    refine gx_La_loaders cx hX d_La_request_30 ?_
    refine lv_iload_n hx hb d_La_request_33 rfl (lv_at hl 2 rfl) ?_
    refine lv_iload_n hx hb d_La_request_34 rfl (lv_at hl 3 rfl) ?_
    refine ll_callvi cx hA hX (c_Lb_isUnderWay l D h cI cZ _ _ _ _ hG) (cw_La_151 cx.1.2.2.2.2 (ll_hR (by omega) (by decide))) (va_recv cx.2 hX.1 (ci := 1) (q0 := 1) rfl rfl) rfl hl.1 rfl (Nat.le_of_ble_eq_true rfl) d_La_request_35 ⟨Nat.zero_le _, Nat.zero_le _⟩ (fun r5 f6 H locs hG hX => ?_)
    refine lv_if_ne (tgt := 47) hx hb d_La_request_38 (by decide) (fun c7 => ?_) (fun c7 => ?_)
    · have hG := hG.1 c7
      refine lv_aload_n hx hb d_La_request_47 rfl (lv_at hl 1 rfl) ?_
      refine lv_bipush (v := (-10)) hx hb d_La_request_48 (by decide) ?_
      refine ll_callvi cx hA hX (c_La_fail l D h cI cZ _ _ _ hG) (cw_La_154 cx.1.2.2.2.2 (ll_hR (by omega) (by decide))) (va_recv cx.2 hX.1 (ci := 0) (q0 := 0) rfl rfl) rfl hl.1 rfl (Nat.le_of_ble_eq_true rfl) d_La_request_50 ⟨Nat.zero_le _, Nat.zero_le _⟩ (fun r8 f9 H locs hG hX => ?_)
      exact ll_iret cx hr hlk hX hG d_La_request_53
    · have hG := hG.2 c7
      refine lv_iload_n hx hb d_La_request_41 rfl (lv_at hl 4 rfl) ?_
      refine lv_bipush (v := 40) hx hb d_La_request_42 (by decide) ?_
      refine lv_icmp_lt (tgt := 54) hx hb d_La_request_44 (by decide) (fun c10 => ?_) (fun c10 => ?_)
      · have hG := hG.1 c10
        refine lv_aload_n hx hb d_La_request_54 rfl (lv_at hl 1 rfl) ?_
        refine gx_La_loaders cx hX d_La_request_55 ?_
        refine lv_iload_n hx hb d_La_request_58 rfl (lv_at hl 2 rfl) ?_
        refine lv_iload_n hx hb d_La_request_59 rfl (lv_at hl 3 rfl) ?_
        refine lv_iconst (v := 1) hx hb d_La_request_60 (by decide) ?_
        refine ll_callvv cx hA hX (c_Lb_setUnderWay l D h cI cZ _ _ _ _ _ hG) (cw_La_157 cx.1.2.2.2.2 (ll_hR (by omega) (by decide))) (va_recv cx.2 hX.1 (ci := 1) (q0 := 1) rfl rfl) rfl hl.1 rfl (Nat.le_of_ble_eq_true rfl) d_La_request_61 ⟨Nat.zero_le _, Nat.zero_le _⟩ (fun f12 H locs hG hX => ?_)
        refine lv_aload_n hx hb d_La_request_64 rfl (lv_at hl 1 rfl) ?_
        refine lv_iload_n hx hb d_La_request_65 rfl (lv_at hl 2 rfl) ?_
        refine lv_iload_n hx hb d_La_request_66 rfl (lv_at hl 3 rfl) ?_
        refine lv_iload_n hx hb d_La_request_67 rfl (lv_at hl 4 rfl) ?_
        refine ll_callvi cx hA hX (c_La_followScript l D h cI cZ rq rho hrho ihq _ _ _ _ _ hG) (cw_La_161 cx.1.2.2.2.2 (ll_hR (by omega) (by decide))) (va_recv cx.2 hX.1 (ci := 0) (q0 := 0) rfl rfl) rfl hl.1 rfl (Nat.le_of_ble_eq_true rfl) d_La_request_68 ⟨Nat.zero_le _, Nat.zero_le _⟩ (fun r13 f14 H locs hG hX => ?_)
        refine lv_istore (lv' := [(5, .int r13), (4, .int r2), (0, .ref (h 0)), (1, .int a1), (2, .int a2), (3, .int a3)]) hx hb d_La_request_71 hl (by decide) rfl (fun ls hl => ?_)
        refine lv_aload_n hx hb d_La_request_73 rfl (lv_at hl 2 rfl) ?_
        refine gx_La_loaders cx hX d_La_request_74 ?_
        refine lv_iload_n hx hb d_La_request_77 rfl (lv_at hl 3 rfl) ?_
        refine lv_iload_n hx hb d_La_request_78 rfl (lv_at hl 4 rfl) ?_
        refine lv_iconst (v := 0) hx hb d_La_request_79 (by decide) ?_
        refine ll_callvv cx hA hX (c_Lb_setUnderWay l D h cI cZ _ _ _ _ _ hG) (cw_La_157 cx.1.2.2.2.2 (ll_hR (by omega) (by decide))) (va_recv cx.2 hX.1 (ci := 1) (q0 := 1) rfl rfl) rfl hl.1 rfl (Nat.le_of_ble_eq_true rfl) d_La_request_80 ⟨Nat.zero_le _, Nat.zero_le _⟩ (fun f16 H locs hG hX => ?_)
        refine lv_iload hx hb d_La_request_83 (lv_at hl 0 rfl) ?_
        refine lv_if_ge (tgt := 93) hx hb d_La_request_85 (by decide) (fun c17 => ?_) (fun c17 => ?_)
        · have hG := hG.1 c17
          refine lv_aload_n hx hb d_La_request_93 rfl (lv_at hl 2 rfl) ?_
          refine lv_iload_n hx hb d_La_request_94 rfl (lv_at hl 3 rfl) ?_
          refine lv_iload_n hx hb d_La_request_95 rfl (lv_at hl 4 rfl) ?_
          refine lv_iload hx hb d_La_request_96 (lv_at hl 0 rfl) ?_
          refine ll_callvi cx hA hX (c_La_accept l D h cI cZ _ _ _ _ _ hG) (cw_La_164 cx.1.2.2.2.2 (ll_hR (by omega) (by decide))) (va_recv cx.2 hX.1 (ci := 0) (q0 := 0) rfl rfl) rfl hl.1 rfl (Nat.le_of_ble_eq_true rfl) d_La_request_98 ⟨Nat.zero_le _, Nat.zero_le _⟩ (fun r18 f19 H locs hG hX => ?_)
          exact ll_iret cx hr hlk hX hG d_La_request_101
        · have hG := hG.2 c17
          refine lv_iload hx hb d_La_request_88 (lv_at hl 0 rfl) ?_
          refine lv_goto (tgt := 101) hx hb d_La_request_90 (by decide) ?_
          exact ll_iret cx hr hlk hX hG d_La_request_101
      · have hG := hG.2 c10
        refine lv_aload_n hx hb d_La_request_47 rfl (lv_at hl 1 rfl) ?_
        refine lv_bipush (v := (-10)) hx hb d_La_request_48 (by decide) ?_
        refine ll_callvi cx hA hX (c_La_fail l D h cI cZ _ _ _ hG) (cw_La_154 cx.1.2.2.2.2 (ll_hR (by omega) (by decide))) (va_recv cx.2 hX.1 (ci := 0) (q0 := 0) rfl rfl) rfl hl.1 rfl (Nat.le_of_ble_eq_true rfl) d_La_request_50 ⟨Nat.zero_le _, Nat.zero_le _⟩ (fun r20 f21 H locs hG hX => ?_)
        exact ll_iret cx hr hlk hX hG d_La_request_53
  · have hG := hG.2 c4
    refine lv_iload hx hb d_La_request_26 (lv_at hl 0 rfl) ?_
    exact ll_iret cx hr hlk hX hG d_La_request_28
def G_rqN : Nat → ll_S → Int32 → Int32 → Int32 → (Int32 → ll_S → Prop) → Prop
  | 0 => fun _ _ _ _ _ => False
  | q + 1 => fun f a1 a2 a3 K => G_La_request (G_rqN q) f a1 a2 a3 K
def G_rq (f : ll_S) (a1 a2 a3 : Int32) (K : Int32 → ll_S → Prop) : Prop := G_rqN 41 f a1 a2 a3 K
theorem c_rqN (l : Launch) (D : va_G) (h : Nat → Nat) (cI cZ : ClassId) : ∀ (q : Nat) (f : ll_S) (a1 a2 a3 : Int32) (K : Int32 → ll_S → Prop), G_rqN q f a1 a2 a3 K → ll_Mi l y_La_request (Cond.code y_La_request b_La_request 6 (some .int) :: ll_xt) (ll_rk (12 + 6 * q)) D [(cI, .int), (cZ, .boolean)] (wd_X h cI cZ) [.ref (h 0), .int a1, .int a2, .int a3] f K := by
  intro q
  induction q with
  | zero => intro f a1 a2 a3 K hG; exact hG.elim
  | succ q ih => intro f a1 a2 a3 K hG; rw [show 12 + 6 * (q + 1) = 12 + 6 * q + 6 by omega]; exact c_La_request l D h cI cZ (G_rqN q) (12 + 6 * q) (by omega) ih f a1 a2 a3 K hG
theorem c_rq (l : Launch) (D : va_G) (h : Nat → Nat) (cI cZ : ClassId) : ∀ (f : ll_S) (a1 a2 a3 : Int32) (K : Int32 → ll_S → Prop), G_rq f a1 a2 a3 K → ll_Mi l y_La_request (Cond.code y_La_request b_La_request 6 (some .int) :: ll_xt) (ll_rk 258) D [(cI, .int), (cZ, .boolean)] (wd_X h cI cZ) [.ref (h 0), .int a1, .int a2, .int a3] f K := c_rqN l D h cI cZ 41
