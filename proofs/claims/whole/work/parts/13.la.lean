def G_La_parent (f : ll_S) (a1 : Int32) (a2 : Int32) (K : Int32 → ll_S → Prop) : Prop := ((a1 < (1 : Int32) → K (-1) f) ∧ (¬ a1 < (1 : Int32) → (((5 : Int32) ≤ a1 → K (-1) f) ∧ (¬ (5 : Int32) ≤ a1 → ((a2 < (-1 : Int32) → K (-1) f) ∧ (¬ a2 < (-1 : Int32) → ((a2 < a1 → (G_Lb_setParent f a1 a2 (fun f6 => K 0 f6))) ∧ (¬ a2 < a1 → K (-1) f))))))))
set_option maxHeartbeats 4000000 in
set_option maxRecDepth 100000 in
theorem c_La_parent (l : Launch) (D : va_G) (h : Nat → Nat) (cI cZ : ClassId) (f : ll_S) (a1 : Int32) (a2 : Int32) (K : Int32 → ll_S → Prop) (hG : G_La_parent f a1 a2 K) : ll_Mi l y_La_parent (Cond.code y_La_parent b_La_parent 3 (some .int) :: ll_xt) (ll_rk 1) D [(cI, .int), (cZ, .boolean)] (wd_X h cI cZ) [.ref (h 0), .int a1, .int a2] f K := by
  refine ll_starti (own := "LoaderLab") (by decide) rfl (Nat.le_of_ble_eq_true rfl) (fun p e s m below meth c ls cx hr hlk hA hX hl => ?_)
  have hl : lv_has ls 3 [(0, .ref (h 0)), (1, .int a1), (2, .int a2)] := hl
  obtain ⟨⟨hx, hb, -, -, -⟩, -⟩ := id cx
  unfold G_La_parent at hG
  refine lv_iload_n hx hb d_La_parent_0 rfl (lv_at hl 1 rfl) ?_
  refine lv_iconst (v := 1) hx hb d_La_parent_1 (by decide) ?_
  refine lv_icmp_lt (tgt := 20) hx hb d_La_parent_2 (by decide) (fun c1 => ?_) (fun c1 => ?_)
  · have hG := hG.1 c1
    refine lv_iconst (v := (-1)) hx hb d_La_parent_20 (by decide) ?_
    exact ll_iret cx hr hlk hX hG d_La_parent_21
  · have hG := hG.2 c1
    refine lv_iload_n hx hb d_La_parent_5 rfl (lv_at hl 1 rfl) ?_
    refine lv_iconst (v := 5) hx hb d_La_parent_6 (by decide) ?_
    refine lv_icmp_ge (tgt := 20) hx hb d_La_parent_7 (by decide) (fun c2 => ?_) (fun c2 => ?_)
    · have hG := hG.1 c2
      refine lv_iconst (v := (-1)) hx hb d_La_parent_20 (by decide) ?_
      exact ll_iret cx hr hlk hX hG d_La_parent_21
    · have hG := hG.2 c2
      refine lv_iload_n hx hb d_La_parent_10 rfl (lv_at hl 2 rfl) ?_
      refine lv_iconst (v := (-1)) hx hb d_La_parent_11 (by decide) ?_
      refine lv_icmp_lt (tgt := 20) hx hb d_La_parent_12 (by decide) (fun c3 => ?_) (fun c3 => ?_)
      · have hG := hG.1 c3
        refine lv_iconst (v := (-1)) hx hb d_La_parent_20 (by decide) ?_
        exact ll_iret cx hr hlk hX hG d_La_parent_21
      · have hG := hG.2 c3
        refine lv_iload_n hx hb d_La_parent_15 rfl (lv_at hl 2 rfl) ?_
        refine lv_iload_n hx hb d_La_parent_16 rfl (lv_at hl 1 rfl) ?_
        refine lv_icmp_lt (tgt := 22) hx hb d_La_parent_17 (by decide) (fun c4 => ?_) (fun c4 => ?_)
        · have hG := hG.1 c4
          refine lv_aload_n hx hb d_La_parent_22 rfl (lv_at hl 0 rfl) ?_
          refine gx_La_loaders cx hX d_La_parent_23 ?_
          refine lv_iload_n hx hb d_La_parent_26 rfl (lv_at hl 1 rfl) ?_
          refine lv_iload_n hx hb d_La_parent_27 rfl (lv_at hl 2 rfl) ?_
          refine ll_callvv cx hA hX (c_Lb_setParent l D h cI cZ _ _ _ _ hG) (cw_La_36 cx.1.2.2.2.2 (ll_hR (by omega) (by decide))) (va_recv cx.2 hX.1 (ci := 1) (q0 := 1) rfl rfl) rfl hl.1 rfl (Nat.le_of_ble_eq_true rfl) d_La_parent_28 ⟨Nat.zero_le _, Nat.zero_le _⟩ (fun f6 H locs hG hX => ?_)
          refine lv_iconst (v := 0) hx hb d_La_parent_31 (by decide) ?_
          exact ll_iret cx hr hlk hX hG d_La_parent_32
        · have hG := hG.2 c4
          refine lv_iconst (v := (-1)) hx hb d_La_parent_20 (by decide) ?_
          exact ll_iret cx hr hlk hX hG d_La_parent_21
def G_La_file (f : ll_S) (a1 : Int32) (a2 : Int32) (a3 : Int32) (a4 : Int32) (K : Int32 → ll_S → Prop) : Prop := (G_Lb_inRange f a1 a2 (fun r1 f2 => ((r1 = 0 → K (-1) f2) ∧ (¬ r1 = 0 → (G_Lb_isFile f2 a3 a4 (fun r4 f5 => ((¬ r4 = 0 → (G_Lb_putFile f5 a1 a2 a3 a4 (fun f8 => K 0 f8))) ∧ (r4 = 0 → K (-1) f5))))))))
set_option maxHeartbeats 4000000 in
set_option maxRecDepth 100000 in
theorem c_La_file (l : Launch) (D : va_G) (h : Nat → Nat) (cI cZ : ClassId) (f : ll_S) (a1 : Int32) (a2 : Int32) (a3 : Int32) (a4 : Int32) (K : Int32 → ll_S → Prop) (hG : G_La_file f a1 a2 a3 a4 K) : ll_Mi l y_La_file (Cond.code y_La_file b_La_file 5 (some .int) :: ll_xt) (ll_rk 2) D [(cI, .int), (cZ, .boolean)] (wd_X h cI cZ) [.ref (h 0), .int a1, .int a2, .int a3, .int a4] f K := by
  refine ll_starti (own := "LoaderLab") (by decide) rfl (Nat.le_of_ble_eq_true rfl) (fun p e s m below meth c ls cx hr hlk hA hX hl => ?_)
  have hl : lv_has ls 5 [(0, .ref (h 0)), (1, .int a1), (2, .int a2), (3, .int a3), (4, .int a4)] := hl
  obtain ⟨⟨hx, hb, -, -, -⟩, -⟩ := id cx
  unfold G_La_file at hG
  refine lv_iload_n hx hb d_La_file_0 rfl (lv_at hl 1 rfl) ?_
  refine lv_iload_n hx hb d_La_file_1 rfl (lv_at hl 2 rfl) ?_
  refine ll_callsi cx hA hX (c_Lb_inRange l D h cI cZ _ _ _ _ hG) (cw_La_40 cx.1.2.2.2.2 (ll_hR (by omega) (by decide))) rfl hl.1 rfl (Nat.le_of_ble_eq_true rfl) d_La_file_2 ⟨Nat.zero_le _, Nat.zero_le _⟩ (fun r1 f2 H locs hG hX => ?_)
  refine lv_if_eq (tgt := 17) hx hb d_La_file_5 (by decide) (fun c3 => ?_) (fun c3 => ?_)
  · have hG := hG.1 c3
    refine lv_iconst (v := (-1)) hx hb d_La_file_17 (by decide) ?_
    exact ll_iret cx hr hlk hX hG d_La_file_18
  · have hG := hG.2 c3
    refine lv_iload_n hx hb d_La_file_8 rfl (lv_at hl 3 rfl) ?_
    refine lv_iload hx hb d_La_file_9 (lv_at hl 4 rfl) ?_
    refine ll_callsi cx hA hX (c_Lb_isFile l D h cI cZ _ _ _ _ hG) (cw_La_44 cx.1.2.2.2.2 (ll_hR (by omega) (by decide))) rfl hl.1 rfl (Nat.le_of_ble_eq_true rfl) d_La_file_11 ⟨Nat.zero_le _, Nat.zero_le _⟩ (fun r4 f5 H locs hG hX => ?_)
    refine lv_if_ne (tgt := 19) hx hb d_La_file_14 (by decide) (fun c6 => ?_) (fun c6 => ?_)
    · have hG := hG.1 c6
      refine lv_aload_n hx hb d_La_file_19 rfl (lv_at hl 0 rfl) ?_
      refine gx_La_loaders cx hX d_La_file_20 ?_
      refine lv_iload_n hx hb d_La_file_23 rfl (lv_at hl 1 rfl) ?_
      refine lv_iload_n hx hb d_La_file_24 rfl (lv_at hl 2 rfl) ?_
      refine lv_iload_n hx hb d_La_file_25 rfl (lv_at hl 3 rfl) ?_
      refine lv_iload hx hb d_La_file_26 (lv_at hl 4 rfl) ?_
      refine ll_callvv cx hA hX (c_Lb_putFile l D h cI cZ _ _ _ _ _ _ hG) (cw_La_47 cx.1.2.2.2.2 (ll_hR (by omega) (by decide))) (va_recv cx.2 hX.1 (ci := 1) (q0 := 1) rfl rfl) rfl hl.1 rfl (Nat.le_of_ble_eq_true rfl) d_La_file_28 ⟨Nat.zero_le _, Nat.zero_le _⟩ (fun f8 H locs hG hX => ?_)
      refine lv_iconst (v := 0) hx hb d_La_file_31 (by decide) ?_
      exact ll_iret cx hr hlk hX hG d_La_file_32
    · have hG := hG.2 c6
      refine lv_iconst (v := (-1)) hx hb d_La_file_17 (by decide) ?_
      exact ll_iret cx hr hlk hX hG d_La_file_18
def G_La_noFile (f : ll_S) (a1 : Int32) (a2 : Int32) (K : Int32 → ll_S → Prop) : Prop := (G_Lb_inRange f a1 a2 (fun r1 f2 => ((r1 = 0 → K (-1) f2) ∧ (¬ r1 = 0 → (G_Lb_hasFile f2 a1 a2 (fun r4 f5 => ((¬ r4 = 0 → (G_Lb_dropFile f5 a1 a2 (fun f8 => K 0 f8))) ∧ (r4 = 0 → K (-1) f5))))))))
set_option maxHeartbeats 4000000 in
set_option maxRecDepth 100000 in
theorem c_La_noFile (l : Launch) (D : va_G) (h : Nat → Nat) (cI cZ : ClassId) (f : ll_S) (a1 : Int32) (a2 : Int32) (K : Int32 → ll_S → Prop) (hG : G_La_noFile f a1 a2 K) : ll_Mi l y_La_noFile (Cond.code y_La_noFile b_La_noFile 3 (some .int) :: ll_xt) (ll_rk 2) D [(cI, .int), (cZ, .boolean)] (wd_X h cI cZ) [.ref (h 0), .int a1, .int a2] f K := by
  refine ll_starti (own := "LoaderLab") (by decide) rfl (Nat.le_of_ble_eq_true rfl) (fun p e s m below meth c ls cx hr hlk hA hX hl => ?_)
  have hl : lv_has ls 3 [(0, .ref (h 0)), (1, .int a1), (2, .int a2)] := hl
  obtain ⟨⟨hx, hb, -, -, -⟩, -⟩ := id cx
  unfold G_La_noFile at hG
  refine lv_iload_n hx hb d_La_noFile_0 rfl (lv_at hl 1 rfl) ?_
  refine lv_iload_n hx hb d_La_noFile_1 rfl (lv_at hl 2 rfl) ?_
  refine ll_callsi cx hA hX (c_Lb_inRange l D h cI cZ _ _ _ _ hG) (cw_La_40 cx.1.2.2.2.2 (ll_hR (by omega) (by decide))) rfl hl.1 rfl (Nat.le_of_ble_eq_true rfl) d_La_noFile_2 ⟨Nat.zero_le _, Nat.zero_le _⟩ (fun r1 f2 H locs hG hX => ?_)
  refine lv_if_eq (tgt := 20) hx hb d_La_noFile_5 (by decide) (fun c3 => ?_) (fun c3 => ?_)
  · have hG := hG.1 c3
    refine lv_iconst (v := (-1)) hx hb d_La_noFile_20 (by decide) ?_
    exact ll_iret cx hr hlk hX hG d_La_noFile_21
  · have hG := hG.2 c3
    refine lv_aload_n hx hb d_La_noFile_8 rfl (lv_at hl 0 rfl) ?_
    refine gx_La_loaders cx hX d_La_noFile_9 ?_
    refine lv_iload_n hx hb d_La_noFile_12 rfl (lv_at hl 1 rfl) ?_
    refine lv_iload_n hx hb d_La_noFile_13 rfl (lv_at hl 2 rfl) ?_
    refine ll_callvi cx hA hX (c_Lb_hasFile l D h cI cZ _ _ _ _ hG) (cw_La_51 cx.1.2.2.2.2 (ll_hR (by omega) (by decide))) (va_recv cx.2 hX.1 (ci := 1) (q0 := 1) rfl rfl) rfl hl.1 rfl (Nat.le_of_ble_eq_true rfl) d_La_noFile_14 ⟨Nat.zero_le _, Nat.zero_le _⟩ (fun r4 f5 H locs hG hX => ?_)
    refine lv_if_ne (tgt := 22) hx hb d_La_noFile_17 (by decide) (fun c6 => ?_) (fun c6 => ?_)
    · have hG := hG.1 c6
      refine lv_aload_n hx hb d_La_noFile_22 rfl (lv_at hl 0 rfl) ?_
      refine gx_La_loaders cx hX d_La_noFile_23 ?_
      refine lv_iload_n hx hb d_La_noFile_26 rfl (lv_at hl 1 rfl) ?_
      refine lv_iload_n hx hb d_La_noFile_27 rfl (lv_at hl 2 rfl) ?_
      refine ll_callvv cx hA hX (c_Lb_dropFile l D h cI cZ _ _ _ _ hG) (cw_La_54 cx.1.2.2.2.2 (ll_hR (by omega) (by decide))) (va_recv cx.2 hX.1 (ci := 1) (q0 := 1) rfl rfl) rfl hl.1 rfl (Nat.le_of_ble_eq_true rfl) d_La_noFile_28 ⟨Nat.zero_le _, Nat.zero_le _⟩ (fun f8 H locs hG hX => ?_)
      refine lv_iconst (v := 0) hx hb d_La_noFile_31 (by decide) ?_
      exact ll_iret cx hr hlk hX hG d_La_noFile_32
    · have hG := hG.2 c6
      refine lv_iconst (v := (-1)) hx hb d_La_noFile_20 (by decide) ?_
      exact ll_iret cx hr hlk hX hG d_La_noFile_21
def G_La_isWay (f : ll_S) (a1 : Int32) (a2 : Int32) (K : Int32 → ll_S → Prop) : Prop := ((a1 = 2 → (G_Lb_isLoader f a2 (fun r2 f3 => (ll_b01 r2 ∧ K r2 f3)))) ∧ (¬ a1 = 2 → ((a1 = 3 → (G_Lb_isName f a2 (fun r5 f6 => (ll_b01 r5 ∧ K r5 f6)))) ∧ (¬ a1 = 3 → ((a1 = 4 → ((a1 < 0 → K 0 f) ∧ (¬ a1 < 0 → (((6 : Int32) < a1 → K 0 f) ∧ (¬ (6 : Int32) < a1 → K 1 f))))) ∧ (¬ a1 = 4 → ((a1 = 5 → ((a1 < 0 → K 0 f) ∧ (¬ a1 < 0 → (((6 : Int32) < a1 → K 0 f) ∧ (¬ (6 : Int32) < a1 → K 1 f))))) ∧ (¬ a1 = 5 → ((a1 = 6 → (G_Lb_isName f a2 (fun r14 f15 => (ll_b01 r14 ∧ K r14 f15)))) ∧ (¬ a1 = 6 → ((a1 < 0 → K 0 f) ∧ (¬ a1 < 0 → (((6 : Int32) < a1 → K 0 f) ∧ (¬ (6 : Int32) < a1 → K 1 f))))))))))))))
set_option maxHeartbeats 4000000 in
set_option maxRecDepth 100000 in
theorem c_La_isWay (l : Launch) (D : va_G) (h : Nat → Nat) (cI cZ : ClassId) (f : ll_S) (a1 : Int32) (a2 : Int32) (K : Int32 → ll_S → Prop) (hG : G_La_isWay f a1 a2 K) : ll_Mi l y_La_isWay (Cond.code y_La_isWay b_La_isWay 2 (some .boolean) :: ll_xt) (ll_rk 1) D [(cI, .int), (cZ, .boolean)] (wd_X h cI cZ) [.int a1, .int a2] f K := by
  refine ll_starti (own := "LoaderLab") (by decide) rfl (Nat.le_of_ble_eq_true rfl) (fun p e s m below meth c ls cx hr hlk hA hX hl => ?_)
  have hl : lv_has ls 2 [(0, .int a1), (1, .int a2)] := hl
  obtain ⟨⟨hx, hb, -, -, -⟩, -⟩ := id cx
  unfold G_La_isWay at hG
  refine lv_iload_n hx hb d_La_isWay_0 rfl (lv_at hl 0 rfl) ?_
  by_cases c1 : a1 = 2
  · refine lv_tableIn (tgt := 36) hx hb d_La_isWay_1 (by rw [c1]; decide) (by rw [c1]; decide) (by rw [c1]; rfl) (by decide) ?_
    have hG := hG.1 c1
    refine lv_iload_n hx hb d_La_isWay_36 rfl (lv_at hl 1 rfl) ?_
    refine ll_callsi cx hA hX (c_Lb_isLoader l D h cI cZ _ _ _ hG) (cw_La_145 cx.1.2.2.2.2 (ll_hR (by omega) (by decide))) rfl hl.1 rfl (Nat.le_of_ble_eq_true rfl) d_La_isWay_37 ⟨Nat.zero_le _, Nat.zero_le _⟩ (fun r2 f3 H locs hG hX => ?_)
    exact ll_zret cx hr hlk hX (ll_b01n hG.1) hG.2 d_La_isWay_40
  replace hG := hG.2 c1
  by_cases c4 : a1 = 3
  · refine lv_tableIn (tgt := 41) hx hb d_La_isWay_1 (by rw [c4]; decide) (by rw [c4]; decide) (by rw [c4]; rfl) (by decide) ?_
    have hG := hG.1 c4
    refine lv_iload_n hx hb d_La_isWay_41 rfl (lv_at hl 1 rfl) ?_
    refine ll_callsi cx hA hX (c_Lb_isName l D h cI cZ _ _ _ hG) (cw_La_74 cx.1.2.2.2.2 (ll_hR (by omega) (by decide))) rfl hl.1 rfl (Nat.le_of_ble_eq_true rfl) d_La_isWay_42 ⟨Nat.zero_le _, Nat.zero_le _⟩ (fun r5 f6 H locs hG hX => ?_)
    exact ll_zret cx hr hlk hX (ll_b01n hG.1) hG.2 d_La_isWay_45
  replace hG := hG.2 c4
  by_cases c7 : a1 = 4
  · refine lv_tableIn (tgt := 46) hx hb d_La_isWay_1 (by rw [c7]; decide) (by rw [c7]; decide) (by rw [c7]; rfl) (by decide) ?_
    have hG := hG.1 c7
    refine lv_iload_n hx hb d_La_isWay_46 rfl (lv_at hl 0 rfl) ?_
    refine lv_if_lt (tgt := 60) hx hb d_La_isWay_47 (by decide) (fun c8 => ?_) (fun c8 => ?_)
    · have hG := hG.1 c8
      refine lv_iconst (v := 0) hx hb d_La_isWay_60 (by decide) ?_
      exact ll_zret cx hr hlk hX (by decide) hG d_La_isWay_61
    · have hG := hG.2 c8
      refine lv_iload_n hx hb d_La_isWay_50 rfl (lv_at hl 0 rfl) ?_
      refine lv_bipush (v := 6) hx hb d_La_isWay_51 (by decide) ?_
      refine lv_icmp_gt (tgt := 60) hx hb d_La_isWay_53 (by decide) (fun c9 => ?_) (fun c9 => ?_)
      · have hG := hG.1 c9
        refine lv_iconst (v := 0) hx hb d_La_isWay_60 (by decide) ?_
        exact ll_zret cx hr hlk hX (by decide) hG d_La_isWay_61
      · have hG := hG.2 c9
        refine lv_iconst (v := 1) hx hb d_La_isWay_56 (by decide) ?_
        refine lv_goto (tgt := 61) hx hb d_La_isWay_57 (by decide) ?_
        exact ll_zret cx hr hlk hX (by decide) hG d_La_isWay_61
  replace hG := hG.2 c7
  by_cases c10 : a1 = 5
  · refine lv_tableIn (tgt := 46) hx hb d_La_isWay_1 (by rw [c10]; decide) (by rw [c10]; decide) (by rw [c10]; rfl) (by decide) ?_
    have hG := hG.1 c10
    refine lv_iload_n hx hb d_La_isWay_46 rfl (lv_at hl 0 rfl) ?_
    refine lv_if_lt (tgt := 60) hx hb d_La_isWay_47 (by decide) (fun c11 => ?_) (fun c11 => ?_)
    · have hG := hG.1 c11
      refine lv_iconst (v := 0) hx hb d_La_isWay_60 (by decide) ?_
      exact ll_zret cx hr hlk hX (by decide) hG d_La_isWay_61
    · have hG := hG.2 c11
      refine lv_iload_n hx hb d_La_isWay_50 rfl (lv_at hl 0 rfl) ?_
      refine lv_bipush (v := 6) hx hb d_La_isWay_51 (by decide) ?_
      refine lv_icmp_gt (tgt := 60) hx hb d_La_isWay_53 (by decide) (fun c12 => ?_) (fun c12 => ?_)
      · have hG := hG.1 c12
        refine lv_iconst (v := 0) hx hb d_La_isWay_60 (by decide) ?_
        exact ll_zret cx hr hlk hX (by decide) hG d_La_isWay_61
      · have hG := hG.2 c12
        refine lv_iconst (v := 1) hx hb d_La_isWay_56 (by decide) ?_
        refine lv_goto (tgt := 61) hx hb d_La_isWay_57 (by decide) ?_
        exact ll_zret cx hr hlk hX (by decide) hG d_La_isWay_61
  replace hG := hG.2 c10
  by_cases c13 : a1 = 6
  · refine lv_tableIn (tgt := 41) hx hb d_La_isWay_1 (by rw [c13]; decide) (by rw [c13]; decide) (by rw [c13]; rfl) (by decide) ?_
    have hG := hG.1 c13
    refine lv_iload_n hx hb d_La_isWay_41 rfl (lv_at hl 1 rfl) ?_
    refine ll_callsi cx hA hX (c_Lb_isName l D h cI cZ _ _ _ hG) (cw_La_74 cx.1.2.2.2.2 (ll_hR (by omega) (by decide))) rfl hl.1 rfl (Nat.le_of_ble_eq_true rfl) d_La_isWay_42 ⟨Nat.zero_le _, Nat.zero_le _⟩ (fun r14 f15 H locs hG hX => ?_)
    exact ll_zret cx hr hlk hX (ll_b01n hG.1) hG.2 d_La_isWay_45
  replace hG := hG.2 c13
  refine lv_tableOut (tgt := 46) hx hb d_La_isWay_1 (by have := lv_neT c1 (a := 2) (by decide); have := lv_neT c4 (a := 3) (by decide); have := lv_neT c7 (a := 4) (by decide); have := lv_neT c10 (a := 5) (by decide); have := lv_neT c13 (a := 6) (by decide); omega) (by decide) ?_
  refine lv_iload_n hx hb d_La_isWay_46 rfl (lv_at hl 0 rfl) ?_
  refine lv_if_lt (tgt := 60) hx hb d_La_isWay_47 (by decide) (fun c16 => ?_) (fun c16 => ?_)
  · have hG := hG.1 c16
    refine lv_iconst (v := 0) hx hb d_La_isWay_60 (by decide) ?_
    exact ll_zret cx hr hlk hX (by decide) hG d_La_isWay_61
  · have hG := hG.2 c16
    refine lv_iload_n hx hb d_La_isWay_50 rfl (lv_at hl 0 rfl) ?_
    refine lv_bipush (v := 6) hx hb d_La_isWay_51 (by decide) ?_
    refine lv_icmp_gt (tgt := 60) hx hb d_La_isWay_53 (by decide) (fun c17 => ?_) (fun c17 => ?_)
    · have hG := hG.1 c17
      refine lv_iconst (v := 0) hx hb d_La_isWay_60 (by decide) ?_
      exact ll_zret cx hr hlk hX (by decide) hG d_La_isWay_61
    · have hG := hG.2 c17
      refine lv_iconst (v := 1) hx hb d_La_isWay_56 (by decide) ?_
      refine lv_goto (tgt := 61) hx hb d_La_isWay_57 (by decide) ?_
      exact ll_zret cx hr hlk hX (by decide) hG d_La_isWay_61
def G_La_script (f : ll_S) (a1 : Int32) (a2 : Int32) (a3 : Int32) (a4 : Int32) (K : Int32 → ll_S → Prop) : Prop := (G_Lb_inRange f a1 a2 (fun r1 f2 => ((r1 = 0 → K (-1) f2) ∧ (¬ r1 = 0 → (G_La_isWay f2 a3 a4 (fun r4 f5 => ((¬ r4 = 0 → (G_Lb_setScript f5 a1 a2 a3 a4 (fun f8 => K 0 f8))) ∧ (r4 = 0 → K (-1) f5))))))))
set_option maxHeartbeats 4000000 in
set_option maxRecDepth 100000 in
theorem c_La_script (l : Launch) (D : va_G) (h : Nat → Nat) (cI cZ : ClassId) (f : ll_S) (a1 : Int32) (a2 : Int32) (a3 : Int32) (a4 : Int32) (K : Int32 → ll_S → Prop) (hG : G_La_script f a1 a2 a3 a4 K) : ll_Mi l y_La_script (Cond.code y_La_script b_La_script 5 (some .int) :: ll_xt) (ll_rk 2) D [(cI, .int), (cZ, .boolean)] (wd_X h cI cZ) [.ref (h 0), .int a1, .int a2, .int a3, .int a4] f K := by
  refine ll_starti (own := "LoaderLab") (by decide) rfl (Nat.le_of_ble_eq_true rfl) (fun p e s m below meth c ls cx hr hlk hA hX hl => ?_)
  have hl : lv_has ls 5 [(0, .ref (h 0)), (1, .int a1), (2, .int a2), (3, .int a3), (4, .int a4)] := hl
  obtain ⟨⟨hx, hb, -, -, -⟩, -⟩ := id cx
  unfold G_La_script at hG
  refine lv_iload_n hx hb d_La_script_0 rfl (lv_at hl 1 rfl) ?_
  refine lv_iload_n hx hb d_La_script_1 rfl (lv_at hl 2 rfl) ?_
  refine ll_callsi cx hA hX (c_Lb_inRange l D h cI cZ _ _ _ _ hG) (cw_La_40 cx.1.2.2.2.2 (ll_hR (by omega) (by decide))) rfl hl.1 rfl (Nat.le_of_ble_eq_true rfl) d_La_script_2 ⟨Nat.zero_le _, Nat.zero_le _⟩ (fun r1 f2 H locs hG hX => ?_)
  refine lv_if_eq (tgt := 17) hx hb d_La_script_5 (by decide) (fun c3 => ?_) (fun c3 => ?_)
  · have hG := hG.1 c3
    refine lv_iconst (v := (-1)) hx hb d_La_script_17 (by decide) ?_
    exact ll_iret cx hr hlk hX hG d_La_script_18
  · have hG := hG.2 c3
    refine lv_iload_n hx hb d_La_script_8 rfl (lv_at hl 3 rfl) ?_
    refine lv_iload hx hb d_La_script_9 (lv_at hl 4 rfl) ?_
    refine ll_callsi cx hA hX (c_La_isWay l D h cI cZ _ _ _ _ hG) (cw_La_57 cx.1.2.2.2.2 (ll_hR (by omega) (by decide))) rfl hl.1 rfl (Nat.le_of_ble_eq_true rfl) d_La_script_11 ⟨Nat.zero_le _, Nat.zero_le _⟩ (fun r4 f5 H locs hG hX => ?_)
    refine lv_if_ne (tgt := 19) hx hb d_La_script_14 (by decide) (fun c6 => ?_) (fun c6 => ?_)
    · have hG := hG.1 c6
      refine lv_aload_n hx hb d_La_script_19 rfl (lv_at hl 0 rfl) ?_
      refine gx_La_loaders cx hX d_La_script_20 ?_
      refine lv_iload_n hx hb d_La_script_23 rfl (lv_at hl 1 rfl) ?_
      refine lv_iload_n hx hb d_La_script_24 rfl (lv_at hl 2 rfl) ?_
      refine lv_iload_n hx hb d_La_script_25 rfl (lv_at hl 3 rfl) ?_
      refine lv_iload hx hb d_La_script_26 (lv_at hl 4 rfl) ?_
      refine ll_callvv cx hA hX (c_Lb_setScript l D h cI cZ _ _ _ _ _ _ hG) (cw_La_60 cx.1.2.2.2.2 (ll_hR (by omega) (by decide))) (va_recv cx.2 hX.1 (ci := 1) (q0 := 1) rfl rfl) rfl hl.1 rfl (Nat.le_of_ble_eq_true rfl) d_La_script_28 ⟨Nat.zero_le _, Nat.zero_le _⟩ (fun f8 H locs hG hX => ?_)
      refine lv_iconst (v := 0) hx hb d_La_script_31 (by decide) ?_
      exact ll_iret cx hr hlk hX hG d_La_script_32
    · have hG := hG.2 c6
      refine lv_iconst (v := (-1)) hx hb d_La_script_17 (by decide) ?_
      exact ll_iret cx hr hlk hX hG d_La_script_18
def G_La_endWith (f : ll_S) (a1 : Int32) (a2 : Int32) (K : Int32 → ll_S → Prop) : Prop := ((0 ≤ a1 → (∀ f2, f2 = ll_w f 19 0 0 → ((0 ≤ a1 → (∀ f4, f4 = ll_w f2 20 0 0 → K a1 f4)) ∧ (¬ 0 ≤ a1 → (∀ f5, f5 = ll_w f2 20 0 a2 → K a1 f5))))) ∧ (¬ 0 ≤ a1 → (∀ f6, f6 = ll_w f 19 0 a1 → ((0 ≤ a1 → (∀ f8, f8 = ll_w f6 20 0 0 → K a1 f8)) ∧ (¬ 0 ≤ a1 → (∀ f9, f9 = ll_w f6 20 0 a2 → K a1 f9))))))
set_option maxHeartbeats 4000000 in
set_option maxRecDepth 100000 in
theorem c_La_endWith (l : Launch) (D : va_G) (h : Nat → Nat) (cI cZ : ClassId) (f : ll_S) (a1 : Int32) (a2 : Int32) (K : Int32 → ll_S → Prop) (hG : G_La_endWith f a1 a2 K) : ll_Mi l y_La_endWith (Cond.code y_La_endWith b_La_endWith 3 (some .int) :: ll_xt) (ll_rk 0) D [(cI, .int), (cZ, .boolean)] (wd_X h cI cZ) [.ref (h 0), .int a1, .int a2] f K := by
  refine ll_starti (own := "LoaderLab") (by decide) rfl (Nat.le_of_ble_eq_true rfl) (fun p e s m below meth c ls cx hr hlk hA hX hl => ?_)
  have hl : lv_has ls 3 [(0, .ref (h 0)), (1, .int a1), (2, .int a2)] := hl
  obtain ⟨⟨hx, hb, -, -, -⟩, -⟩ := id cx
  unfold G_La_endWith at hG
  refine lv_aload_n hx hb d_La_endWith_0 rfl (lv_at hl 0 rfl) ?_
  refine lv_iload_n hx hb d_La_endWith_1 rfl (lv_at hl 1 rfl) ?_
  refine lv_if_ge (tgt := 9) hx hb d_La_endWith_2 (by decide) (fun c1 => ?_) (fun c1 => ?_)
  · have hG := hG.1 c1
    refine lv_iconst (v := 0) hx hb d_La_endWith_9 (by decide) ?_
    refine px_La_lastFailure cx hX d_La_endWith_10 (fun f2 ef2 H locs hX => ?_)
    replace hG := hG f2 ef2
    refine lv_aload_n hx hb d_La_endWith_13 rfl (lv_at hl 0 rfl) ?_
    refine lv_iload_n hx hb d_La_endWith_14 rfl (lv_at hl 1 rfl) ?_
    refine lv_if_ge (tgt := 22) hx hb d_La_endWith_15 (by decide) (fun c3 => ?_) (fun c3 => ?_)
    · have hG := hG.1 c3
      refine lv_iconst (v := 0) hx hb d_La_endWith_22 (by decide) ?_
      refine px_La_lastCause cx hX d_La_endWith_23 (fun f4 ef4 H locs hX => ?_)
      replace hG := hG f4 ef4
      refine lv_iload_n hx hb d_La_endWith_26 rfl (lv_at hl 1 rfl) ?_
      exact ll_iret cx hr hlk hX hG d_La_endWith_27
    · have hG := hG.2 c3
      refine lv_iload_n hx hb d_La_endWith_18 rfl (lv_at hl 2 rfl) ?_
      refine lv_goto (tgt := 23) hx hb d_La_endWith_19 (by decide) ?_
      refine px_La_lastCause cx hX d_La_endWith_23 (fun f5 ef5 H locs hX => ?_)
      replace hG := hG f5 ef5
      refine lv_iload_n hx hb d_La_endWith_26 rfl (lv_at hl 1 rfl) ?_
      exact ll_iret cx hr hlk hX hG d_La_endWith_27
  · have hG := hG.2 c1
    refine lv_iload_n hx hb d_La_endWith_5 rfl (lv_at hl 1 rfl) ?_
    refine lv_goto (tgt := 10) hx hb d_La_endWith_6 (by decide) ?_
    refine px_La_lastFailure cx hX d_La_endWith_10 (fun f6 ef6 H locs hX => ?_)
    replace hG := hG f6 ef6
    refine lv_aload_n hx hb d_La_endWith_13 rfl (lv_at hl 0 rfl) ?_
    refine lv_iload_n hx hb d_La_endWith_14 rfl (lv_at hl 1 rfl) ?_
    refine lv_if_ge (tgt := 22) hx hb d_La_endWith_15 (by decide) (fun c7 => ?_) (fun c7 => ?_)
    · have hG := hG.1 c7
      refine lv_iconst (v := 0) hx hb d_La_endWith_22 (by decide) ?_
      refine px_La_lastCause cx hX d_La_endWith_23 (fun f8 ef8 H locs hX => ?_)
      replace hG := hG f8 ef8
      refine lv_iload_n hx hb d_La_endWith_26 rfl (lv_at hl 1 rfl) ?_
      exact ll_iret cx hr hlk hX hG d_La_endWith_27
    · have hG := hG.2 c7
      refine lv_iload_n hx hb d_La_endWith_18 rfl (lv_at hl 2 rfl) ?_
      refine lv_goto (tgt := 23) hx hb d_La_endWith_19 (by decide) ?_
      refine px_La_lastCause cx hX d_La_endWith_23 (fun f9 ef9 H locs hX => ?_)
      replace hG := hG f9 ef9
      refine lv_iload_n hx hb d_La_endWith_26 rfl (lv_at hl 1 rfl) ?_
      exact ll_iret cx hr hlk hX hG d_La_endWith_27
def G_La_refer (f : ll_S) (a1 : Int32) (a2 : Int32) (a3 : Int32) (K : Int32 → ll_S → Prop) : Prop := (G_Lc_hasPlace f a1 a2 (fun r1 f2 => ((r1 = 0 → K (-1) f2) ∧ (¬ r1 = 0 → (G_Lb_isName f2 a3 (fun r4 f5 => ((r4 = 0 → K (-1) f5) ∧ (¬ r4 = 0 → (G_Lc_keptFor f5 a1 a2 (fun r7 f8 => ((r7 = 0 → (G_Lc_setReference f8 a1 a2 a3 (fun f11 => K 0 f11))) ∧ (¬ r7 = 0 → K (-1) f8))))))))))))
set_option maxHeartbeats 4000000 in
set_option maxRecDepth 100000 in
theorem c_La_refer (l : Launch) (D : va_G) (h : Nat → Nat) (cI cZ : ClassId) (f : ll_S) (a1 : Int32) (a2 : Int32) (a3 : Int32) (K : Int32 → ll_S → Prop) (hG : G_La_refer f a1 a2 a3 K) : ll_Mi l y_La_refer (Cond.code y_La_refer b_La_refer 4 (some .int) :: ll_xt) (ll_rk 2) D [(cI, .int), (cZ, .boolean)] (wd_X h cI cZ) [.ref (h 0), .int a1, .int a2, .int a3] f K := by
  refine ll_starti (own := "LoaderLab") (by decide) rfl (Nat.le_of_ble_eq_true rfl) (fun p e s m below meth c ls cx hr hlk hA hX hl => ?_)
  have hl : lv_has ls 4 [(0, .ref (h 0)), (1, .int a1), (2, .int a2), (3, .int a3)] := hl
  obtain ⟨⟨hx, hb, -, -, -⟩, -⟩ := id cx
  unfold G_La_refer at hG
  refine lv_aload_n hx hb d_La_refer_0 rfl (lv_at hl 0 rfl) ?_
  refine gx_La_classes cx hX d_La_refer_1 ?_
  refine lv_iload_n hx hb d_La_refer_4 rfl (lv_at hl 1 rfl) ?_
  refine lv_iload_n hx hb d_La_refer_5 rfl (lv_at hl 2 rfl) ?_
  refine ll_callvi cx hA hX (c_Lc_hasPlace l D h cI cZ _ _ _ _ hG) (cw_La_71 cx.1.2.2.2.2 (ll_hR (by omega) (by decide))) (va_recv cx.2 hX.1 (ci := 2) (q0 := 2) rfl rfl) rfl hl.1 rfl (Nat.le_of_ble_eq_true rfl) d_La_refer_6 ⟨Nat.zero_le _, Nat.zero_le _⟩ (fun r1 f2 H locs hG hX => ?_)
  refine lv_if_eq (tgt := 31) hx hb d_La_refer_9 (by decide) (fun c3 => ?_) (fun c3 => ?_)
  · have hG := hG.1 c3
    refine lv_iconst (v := (-1)) hx hb d_La_refer_31 (by decide) ?_
    exact ll_iret cx hr hlk hX hG d_La_refer_32
  · have hG := hG.2 c3
    refine lv_iload_n hx hb d_La_refer_12 rfl (lv_at hl 3 rfl) ?_
    refine ll_callsi cx hA hX (c_Lb_isName l D h cI cZ _ _ _ hG) (cw_La_74 cx.1.2.2.2.2 (ll_hR (by omega) (by decide))) rfl hl.1 rfl (Nat.le_of_ble_eq_true rfl) d_La_refer_13 ⟨Nat.zero_le _, Nat.zero_le _⟩ (fun r4 f5 H locs hG hX => ?_)
    refine lv_if_eq (tgt := 31) hx hb d_La_refer_16 (by decide) (fun c6 => ?_) (fun c6 => ?_)
    · have hG := hG.1 c6
      refine lv_iconst (v := (-1)) hx hb d_La_refer_31 (by decide) ?_
      exact ll_iret cx hr hlk hX hG d_La_refer_32
    · have hG := hG.2 c6
      refine lv_aload_n hx hb d_La_refer_19 rfl (lv_at hl 0 rfl) ?_
      refine gx_La_classes cx hX d_La_refer_20 ?_
      refine lv_iload_n hx hb d_La_refer_23 rfl (lv_at hl 1 rfl) ?_
      refine lv_iload_n hx hb d_La_refer_24 rfl (lv_at hl 2 rfl) ?_
      refine ll_callvi cx hA hX (c_Lc_keptFor l D h cI cZ _ _ _ _ hG) (cw_La_78 cx.1.2.2.2.2 (ll_hR (by omega) (by decide))) (va_recv cx.2 hX.1 (ci := 2) (q0 := 2) rfl rfl) rfl hl.1 rfl (Nat.le_of_ble_eq_true rfl) d_La_refer_25 ⟨Nat.zero_le _, Nat.zero_le _⟩ (fun r7 f8 H locs hG hX => ?_)
      refine lv_if_eq (tgt := 33) hx hb d_La_refer_28 (by decide) (fun c9 => ?_) (fun c9 => ?_)
      · have hG := hG.1 c9
        refine lv_aload_n hx hb d_La_refer_33 rfl (lv_at hl 0 rfl) ?_
        refine gx_La_classes cx hX d_La_refer_34 ?_
        refine lv_iload_n hx hb d_La_refer_37 rfl (lv_at hl 1 rfl) ?_
        refine lv_iload_n hx hb d_La_refer_38 rfl (lv_at hl 2 rfl) ?_
        refine lv_iload_n hx hb d_La_refer_39 rfl (lv_at hl 3 rfl) ?_
        refine ll_callvv cx hA hX (c_Lc_setReference l D h cI cZ _ _ _ _ _ hG) (cw_La_81 cx.1.2.2.2.2 (ll_hR (by omega) (by decide))) (va_recv cx.2 hX.1 (ci := 2) (q0 := 2) rfl rfl) rfl hl.1 rfl (Nat.le_of_ble_eq_true rfl) d_La_refer_40 ⟨Nat.zero_le _, Nat.zero_le _⟩ (fun f11 H locs hG hX => ?_)
        refine lv_iconst (v := 0) hx hb d_La_refer_43 (by decide) ?_
        exact ll_iret cx hr hlk hX hG d_La_refer_44
      · have hG := hG.2 c9
        refine lv_iconst (v := (-1)) hx hb d_La_refer_31 (by decide) ?_
        exact ll_iret cx hr hlk hX hG d_La_refer_32
def G_La_failBecause (f : ll_S) (a1 : Int32) (a2 : Int32) (K : Int32 → ll_S → Prop) : Prop := (∀ f1, f1 = ll_w f 18 0 a2 → K a1 f1)
set_option maxHeartbeats 4000000 in
set_option maxRecDepth 100000 in
theorem c_La_failBecause (l : Launch) (D : va_G) (h : Nat → Nat) (cI cZ : ClassId) (f : ll_S) (a1 : Int32) (a2 : Int32) (K : Int32 → ll_S → Prop) (hG : G_La_failBecause f a1 a2 K) : ll_Mi l y_La_failBecause (Cond.code y_La_failBecause b_La_failBecause 3 (some .int) :: ll_xt) (ll_rk 0) D [(cI, .int), (cZ, .boolean)] (wd_X h cI cZ) [.ref (h 0), .int a1, .int a2] f K := by
  refine ll_starti (own := "LoaderLab") (by decide) rfl (Nat.le_of_ble_eq_true rfl) (fun p e s m below meth c ls cx hr hlk hA hX hl => ?_)
  have hl : lv_has ls 3 [(0, .ref (h 0)), (1, .int a1), (2, .int a2)] := hl
  obtain ⟨⟨hx, hb, -, -, -⟩, -⟩ := id cx
  unfold G_La_failBecause at hG
  refine lv_aload_n hx hb d_La_failBecause_0 rfl (lv_at hl 0 rfl) ?_
  refine lv_iload_n hx hb d_La_failBecause_1 rfl (lv_at hl 2 rfl) ?_
  refine px_La_risingCause cx hX d_La_failBecause_2 (fun f1 ef1 H locs hX => ?_)
  replace hG := hG f1 ef1
  refine lv_iload_n hx hb d_La_failBecause_5 rfl (lv_at hl 1 rfl) ?_
  exact ll_iret cx hr hlk hX hG d_La_failBecause_6
def G_La_constrain (f : ll_S) (a1 : Int32) (a2 : Int32) (a3 : Int32) (K : Int32 → ll_S → Prop) : Prop := (G_Lb_inRange f a1 a3 (fun r1 f2 => ((r1 = 0 → K (-1) f2) ∧ (¬ r1 = 0 → (G_Lb_inRange f2 a2 a3 (fun r4 f5 => ((¬ r4 = 0 → (G_Lb_join f5 a1 a2 a3 (fun r7 f8 => ((r7 = 0 → K (-9) f8) ∧ (¬ r7 = 0 → K 0 f8))))) ∧ (r4 = 0 → K (-1) f5))))))))
set_option maxHeartbeats 4000000 in
set_option maxRecDepth 100000 in
theorem c_La_constrain (l : Launch) (D : va_G) (h : Nat → Nat) (cI cZ : ClassId) (f : ll_S) (a1 : Int32) (a2 : Int32) (a3 : Int32) (K : Int32 → ll_S → Prop) (hG : G_La_constrain f a1 a2 a3 K) : ll_Mi l y_La_constrain (Cond.code y_La_constrain b_La_constrain 4 (some .int) :: ll_xt) (ll_rk 4) D [(cI, .int), (cZ, .boolean)] (wd_X h cI cZ) [.ref (h 0), .int a1, .int a2, .int a3] f K := by
  refine ll_starti (own := "LoaderLab") (by decide) rfl (Nat.le_of_ble_eq_true rfl) (fun p e s m below meth c ls cx hr hlk hA hX hl => ?_)
  have hl : lv_has ls 4 [(0, .ref (h 0)), (1, .int a1), (2, .int a2), (3, .int a3)] := hl
  obtain ⟨⟨hx, hb, -, -, -⟩, -⟩ := id cx
  unfold G_La_constrain at hG
  refine lv_iload_n hx hb d_La_constrain_0 rfl (lv_at hl 1 rfl) ?_
  refine lv_iload_n hx hb d_La_constrain_1 rfl (lv_at hl 3 rfl) ?_
  refine ll_callsi cx hA hX (c_Lb_inRange l D h cI cZ _ _ _ _ hG) (cw_La_40 cx.1.2.2.2.2 (ll_hR (by omega) (by decide))) rfl hl.1 rfl (Nat.le_of_ble_eq_true rfl) d_La_constrain_2 ⟨Nat.zero_le _, Nat.zero_le _⟩ (fun r1 f2 H locs hG hX => ?_)
  refine lv_if_eq (tgt := 16) hx hb d_La_constrain_5 (by decide) (fun c3 => ?_) (fun c3 => ?_)
  · have hG := hG.1 c3
    refine lv_iconst (v := (-1)) hx hb d_La_constrain_16 (by decide) ?_
    exact ll_iret cx hr hlk hX hG d_La_constrain_17
  · have hG := hG.2 c3
    refine lv_iload_n hx hb d_La_constrain_8 rfl (lv_at hl 2 rfl) ?_
    refine lv_iload_n hx hb d_La_constrain_9 rfl (lv_at hl 3 rfl) ?_
    refine ll_callsi cx hA hX (c_Lb_inRange l D h cI cZ _ _ _ _ hG) (cw_La_40 cx.1.2.2.2.2 (ll_hR (by omega) (by decide))) rfl hl.1 rfl (Nat.le_of_ble_eq_true rfl) d_La_constrain_10 ⟨Nat.zero_le _, Nat.zero_le _⟩ (fun r4 f5 H locs hG hX => ?_)
    refine lv_if_ne (tgt := 18) hx hb d_La_constrain_13 (by decide) (fun c6 => ?_) (fun c6 => ?_)
    · have hG := hG.1 c6
      refine lv_aload_n hx hb d_La_constrain_18 rfl (lv_at hl 0 rfl) ?_
      refine gx_La_loaders cx hX d_La_constrain_19 ?_
      refine lv_iload_n hx hb d_La_constrain_22 rfl (lv_at hl 1 rfl) ?_
      refine lv_iload_n hx hb d_La_constrain_23 rfl (lv_at hl 2 rfl) ?_
      refine lv_iload_n hx hb d_La_constrain_24 rfl (lv_at hl 3 rfl) ?_
      refine ll_callvi cx hA hX (c_Lb_join l D h cI cZ _ _ _ _ _ hG) (cw_La_104 cx.1.2.2.2.2 (ll_hR (by omega) (by decide))) (va_recv cx.2 hX.1 (ci := 1) (q0 := 1) rfl rfl) rfl hl.1 rfl (Nat.le_of_ble_eq_true rfl) d_La_constrain_25 ⟨Nat.zero_le _, Nat.zero_le _⟩ (fun r7 f8 H locs hG hX => ?_)
      refine lv_if_eq (tgt := 35) hx hb d_La_constrain_28 (by decide) (fun c9 => ?_) (fun c9 => ?_)
      · have hG := hG.1 c9
        refine lv_bipush (v := (-9)) hx hb d_La_constrain_35 (by decide) ?_
        exact ll_iret cx hr hlk hX hG d_La_constrain_37
      · have hG := hG.2 c9
        refine lv_iconst (v := 0) hx hb d_La_constrain_31 (by decide) ?_
        refine lv_goto (tgt := 37) hx hb d_La_constrain_32 (by decide) ?_
        exact ll_iret cx hr hlk hX hG d_La_constrain_37
    · have hG := hG.2 c6
      refine lv_iconst (v := (-1)) hx hb d_La_constrain_16 (by decide) ?_
      exact ll_iret cx hr hlk hX hG d_La_constrain_17
def G_La_agree (f : ll_S) (a1 : Int32) (a2 : Int32) (a3 : Int32) (K : Int32 → ll_S → Prop) : Prop := (G_Lb_inRange f a1 a3 (fun r1 f2 => ((r1 = 0 → K 0 f2) ∧ (¬ r1 = 0 → (G_Lb_inRange f2 a2 a3 (fun r4 f5 => ((r4 = 0 → K 0 f5) ∧ (¬ r4 = 0 → (G_Lb_arePeers f5 a1 a2 a3 (fun r7 f8 => ((r7 = 0 → K 0 f8) ∧ (¬ r7 = 0 → K 1 f8))))))))))))
set_option maxHeartbeats 4000000 in
set_option maxRecDepth 100000 in
theorem c_La_agree (l : Launch) (D : va_G) (h : Nat → Nat) (cI cZ : ClassId) (f : ll_S) (a1 : Int32) (a2 : Int32) (a3 : Int32) (K : Int32 → ll_S → Prop) (hG : G_La_agree f a1 a2 a3 K) : ll_Mi l y_La_agree (Cond.code y_La_agree b_La_agree 4 (some .boolean) :: ll_xt) (ll_rk 2) D [(cI, .int), (cZ, .boolean)] (wd_X h cI cZ) [.ref (h 0), .int a1, .int a2, .int a3] f K := by
  refine ll_starti (own := "LoaderLab") (by decide) rfl (Nat.le_of_ble_eq_true rfl) (fun p e s m below meth c ls cx hr hlk hA hX hl => ?_)
  have hl : lv_has ls 4 [(0, .ref (h 0)), (1, .int a1), (2, .int a2), (3, .int a3)] := hl
  obtain ⟨⟨hx, hb, -, -, -⟩, -⟩ := id cx
  unfold G_La_agree at hG
  refine lv_iload_n hx hb d_La_agree_0 rfl (lv_at hl 1 rfl) ?_
  refine lv_iload_n hx hb d_La_agree_1 rfl (lv_at hl 3 rfl) ?_
  refine ll_callsi cx hA hX (c_Lb_inRange l D h cI cZ _ _ _ _ hG) (cw_La_40 cx.1.2.2.2.2 (ll_hR (by omega) (by decide))) rfl hl.1 rfl (Nat.le_of_ble_eq_true rfl) d_La_agree_2 ⟨Nat.zero_le _, Nat.zero_le _⟩ (fun r1 f2 H locs hG hX => ?_)
  refine lv_if_eq (tgt := 33) hx hb d_La_agree_5 (by decide) (fun c3 => ?_) (fun c3 => ?_)
  · have hG := hG.1 c3
    refine lv_iconst (v := 0) hx hb d_La_agree_33 (by decide) ?_
    exact ll_zret cx hr hlk hX (by decide) hG d_La_agree_34
  · have hG := hG.2 c3
    refine lv_iload_n hx hb d_La_agree_8 rfl (lv_at hl 2 rfl) ?_
    refine lv_iload_n hx hb d_La_agree_9 rfl (lv_at hl 3 rfl) ?_
    refine ll_callsi cx hA hX (c_Lb_inRange l D h cI cZ _ _ _ _ hG) (cw_La_40 cx.1.2.2.2.2 (ll_hR (by omega) (by decide))) rfl hl.1 rfl (Nat.le_of_ble_eq_true rfl) d_La_agree_10 ⟨Nat.zero_le _, Nat.zero_le _⟩ (fun r4 f5 H locs hG hX => ?_)
    refine lv_if_eq (tgt := 33) hx hb d_La_agree_13 (by decide) (fun c6 => ?_) (fun c6 => ?_)
    · have hG := hG.1 c6
      refine lv_iconst (v := 0) hx hb d_La_agree_33 (by decide) ?_
      exact ll_zret cx hr hlk hX (by decide) hG d_La_agree_34
    · have hG := hG.2 c6
      refine lv_aload_n hx hb d_La_agree_16 rfl (lv_at hl 0 rfl) ?_
      refine gx_La_loaders cx hX d_La_agree_17 ?_
      refine lv_iload_n hx hb d_La_agree_20 rfl (lv_at hl 1 rfl) ?_
      refine lv_iload_n hx hb d_La_agree_21 rfl (lv_at hl 2 rfl) ?_
      refine lv_iload_n hx hb d_La_agree_22 rfl (lv_at hl 3 rfl) ?_
      refine ll_callvi cx hA hX (c_Lb_arePeers l D h cI cZ _ _ _ _ _ hG) (cw_La_108 cx.1.2.2.2.2 (ll_hR (by omega) (by decide))) (va_recv cx.2 hX.1 (ci := 1) (q0 := 1) rfl rfl) rfl hl.1 rfl (Nat.le_of_ble_eq_true rfl) d_La_agree_23 ⟨Nat.zero_le _, Nat.zero_le _⟩ (fun r7 f8 H locs hG hX => ?_)
      refine lv_if_eq (tgt := 33) hx hb d_La_agree_26 (by decide) (fun c9 => ?_) (fun c9 => ?_)
      · have hG := hG.1 c9
        refine lv_iconst (v := 0) hx hb d_La_agree_33 (by decide) ?_
        exact ll_zret cx hr hlk hX (by decide) hG d_La_agree_34
      · have hG := hG.2 c9
        refine lv_iconst (v := 1) hx hb d_La_agree_29 (by decide) ?_
        refine lv_goto (tgt := 34) hx hb d_La_agree_30 (by decide) ?_
        exact ll_zret cx hr hlk hX (by decide) hG d_La_agree_34
def G_La_cause (f : ll_S) (a1 : Int32) (K : Int32 → ll_S → Prop) : Prop := ((¬ a1 = 0 → ((¬ a1 = (1 : Int32) → ((¬ (0 : Int32) = 0 → K 0 f) ∧ ((0 : Int32) = 0 → K (-1) f))) ∧ (a1 = (1 : Int32) → ((¬ (f 20 0) = 0 → K (f 20 0) f) ∧ ((f 20 0) = 0 → K (-1) f))))) ∧ (a1 = 0 → ((¬ (f 19 0) = 0 → K (f 19 0) f) ∧ ((f 19 0) = 0 → K (-1) f))))
set_option maxHeartbeats 4000000 in
set_option maxRecDepth 100000 in
theorem c_La_cause (l : Launch) (D : va_G) (h : Nat → Nat) (cI cZ : ClassId) (f : ll_S) (a1 : Int32) (K : Int32 → ll_S → Prop) (hG : G_La_cause f a1 K) : ll_Mi l y_La_cause (Cond.code y_La_cause b_La_cause 3 (some .int) :: ll_xt) (ll_rk 0) D [(cI, .int), (cZ, .boolean)] (wd_X h cI cZ) [.ref (h 0), .int a1] f K := by
  refine ll_starti (own := "LoaderLab") (by decide) rfl (Nat.le_of_ble_eq_true rfl) (fun p e s m below meth c ls cx hr hlk hA hX hl => ?_)
  have hl : lv_has ls 3 [(0, .ref (h 0)), (1, .int a1)] := hl
  obtain ⟨⟨hx, hb, -, -, -⟩, -⟩ := id cx
  unfold G_La_cause at hG
  refine lv_iload_n hx hb d_La_cause_0 rfl (lv_at hl 1 rfl) ?_
  refine lv_if_ne (tgt := 11) hx hb d_La_cause_1 (by decide) (fun c1 => ?_) (fun c1 => ?_)
  · have hG := hG.1 c1
    refine lv_iload_n hx hb d_La_cause_11 rfl (lv_at hl 1 rfl) ?_
    refine lv_iconst (v := 1) hx hb d_La_cause_12 (by decide) ?_
    refine lv_icmp_ne (tgt := 23) hx hb d_La_cause_13 (by decide) (fun c2 => ?_) (fun c2 => ?_)
    · have hG := hG.1 c2
      refine lv_iconst (v := 0) hx hb d_La_cause_23 (by decide) ?_
      refine lv_istore_n (lv' := [(2, .int 0), (0, .ref (h 0)), (1, .int a1)]) hx hb d_La_cause_24 rfl hl (by decide) rfl (fun ls hl => ?_)
      refine lv_iload_n hx hb d_La_cause_25 rfl (lv_at hl 0 rfl) ?_
      refine lv_if_ne (tgt := 33) hx hb d_La_cause_26 (by decide) (fun c3 => ?_) (fun c3 => ?_)
      · have hG := hG.1 c3
        refine lv_iload_n hx hb d_La_cause_33 rfl (lv_at hl 0 rfl) ?_
        exact ll_iret cx hr hlk hX hG d_La_cause_34
      · have hG := hG.2 c3
        refine lv_iconst (v := (-1)) hx hb d_La_cause_29 (by decide) ?_
        refine lv_goto (tgt := 34) hx hb d_La_cause_30 (by decide) ?_
        exact ll_iret cx hr hlk hX hG d_La_cause_34
    · have hG := hG.2 c2
      refine lv_aload_n hx hb d_La_cause_16 rfl (lv_at hl 0 rfl) ?_
      refine gx_La_lastCause cx hX d_La_cause_17 ?_
      refine lv_goto (tgt := 24) hx hb d_La_cause_20 (by decide) ?_
      refine lv_istore_n (lv' := [(2, .int (f 20 0)), (0, .ref (h 0)), (1, .int a1)]) hx hb d_La_cause_24 rfl hl (by decide) rfl (fun ls hl => ?_)
      refine lv_iload_n hx hb d_La_cause_25 rfl (lv_at hl 0 rfl) ?_
      refine lv_if_ne (tgt := 33) hx hb d_La_cause_26 (by decide) (fun c4 => ?_) (fun c4 => ?_)
      · have hG := hG.1 c4
        refine lv_iload_n hx hb d_La_cause_33 rfl (lv_at hl 0 rfl) ?_
        exact ll_iret cx hr hlk hX hG d_La_cause_34
      · have hG := hG.2 c4
        refine lv_iconst (v := (-1)) hx hb d_La_cause_29 (by decide) ?_
        refine lv_goto (tgt := 34) hx hb d_La_cause_30 (by decide) ?_
        exact ll_iret cx hr hlk hX hG d_La_cause_34
  · have hG := hG.2 c1
    refine lv_aload_n hx hb d_La_cause_4 rfl (lv_at hl 0 rfl) ?_
    refine gx_La_lastFailure cx hX d_La_cause_5 ?_
    refine lv_goto (tgt := 24) hx hb d_La_cause_8 (by decide) ?_
    refine lv_istore_n (lv' := [(2, .int (f 19 0)), (0, .ref (h 0)), (1, .int a1)]) hx hb d_La_cause_24 rfl hl (by decide) rfl (fun ls hl => ?_)
    refine lv_iload_n hx hb d_La_cause_25 rfl (lv_at hl 0 rfl) ?_
    refine lv_if_ne (tgt := 33) hx hb d_La_cause_26 (by decide) (fun c5 => ?_) (fun c5 => ?_)
    · have hG := hG.1 c5
      refine lv_iload_n hx hb d_La_cause_33 rfl (lv_at hl 0 rfl) ?_
      exact ll_iret cx hr hlk hX hG d_La_cause_34
    · have hG := hG.2 c5
      refine lv_iconst (v := (-1)) hx hb d_La_cause_29 (by decide) ?_
      refine lv_goto (tgt := 34) hx hb d_La_cause_30 (by decide) ?_
      exact ll_iret cx hr hlk hX hG d_La_cause_34
def G_La_requests (f : ll_S) (K : Int32 → ll_S → Prop) : Prop := K (f 17 0) f
set_option maxHeartbeats 4000000 in
set_option maxRecDepth 100000 in
theorem c_La_requests (l : Launch) (D : va_G) (h : Nat → Nat) (cI cZ : ClassId) (f : ll_S) (K : Int32 → ll_S → Prop) (hG : G_La_requests f K) : ll_Mi l y_La_requests (Cond.code y_La_requests b_La_requests 1 (some .int) :: ll_xt) (ll_rk 0) D [(cI, .int), (cZ, .boolean)] (wd_X h cI cZ) [.ref (h 0)] f K := by
  refine ll_starti (own := "LoaderLab") (by decide) rfl (Nat.le_of_ble_eq_true rfl) (fun p e s m below meth c ls cx hr hlk hA hX hl => ?_)
  have hl : lv_has ls 1 [(0, .ref (h 0))] := hl
  obtain ⟨⟨hx, hb, -, -, -⟩, -⟩ := id cx
  unfold G_La_requests at hG
  refine lv_aload_n hx hb d_La_requests_0 rfl (lv_at hl 0 rfl) ?_
  refine gx_La_begun cx hX d_La_requests_1 ?_
  exact ll_iret cx hr hlk hX hG d_La_requests_4
def G_La_recorded (f : ll_S) (a1 : Int32) (a2 : Int32) (K : Int32 → ll_S → Prop) : Prop := (G_Lb_inRange f a1 a2 (fun r1 f2 => ((r1 = 0 → K (-1) f2) ∧ (¬ r1 = 0 → (G_Lb_recordOf f2 a1 a2 (fun r4 f5 => K r4 f5))))))
set_option maxHeartbeats 4000000 in
set_option maxRecDepth 100000 in
theorem c_La_recorded (l : Launch) (D : va_G) (h : Nat → Nat) (cI cZ : ClassId) (f : ll_S) (a1 : Int32) (a2 : Int32) (K : Int32 → ll_S → Prop) (hG : G_La_recorded f a1 a2 K) : ll_Mi l y_La_recorded (Cond.code y_La_recorded b_La_recorded 3 (some .int) :: ll_xt) (ll_rk 2) D [(cI, .int), (cZ, .boolean)] (wd_X h cI cZ) [.ref (h 0), .int a1, .int a2] f K := by
  refine ll_starti (own := "LoaderLab") (by decide) rfl (Nat.le_of_ble_eq_true rfl) (fun p e s m below meth c ls cx hr hlk hA hX hl => ?_)
  have hl : lv_has ls 3 [(0, .ref (h 0)), (1, .int a1), (2, .int a2)] := hl
  obtain ⟨⟨hx, hb, -, -, -⟩, -⟩ := id cx
  unfold G_La_recorded at hG
  refine lv_iload_n hx hb d_La_recorded_0 rfl (lv_at hl 1 rfl) ?_
  refine lv_iload_n hx hb d_La_recorded_1 rfl (lv_at hl 2 rfl) ?_
  refine ll_callsi cx hA hX (c_Lb_inRange l D h cI cZ _ _ _ _ hG) (cw_La_40 cx.1.2.2.2.2 (ll_hR (by omega) (by decide))) rfl hl.1 rfl (Nat.le_of_ble_eq_true rfl) d_La_recorded_2 ⟨Nat.zero_le _, Nat.zero_le _⟩ (fun r1 f2 H locs hG hX => ?_)
  refine lv_if_eq (tgt := 20) hx hb d_La_recorded_5 (by decide) (fun c3 => ?_) (fun c3 => ?_)
  · have hG := hG.1 c3
    refine lv_iconst (v := (-1)) hx hb d_La_recorded_20 (by decide) ?_
    exact ll_iret cx hr hlk hX hG d_La_recorded_21
  · have hG := hG.2 c3
    refine lv_aload_n hx hb d_La_recorded_8 rfl (lv_at hl 0 rfl) ?_
    refine gx_La_loaders cx hX d_La_recorded_9 ?_
    refine lv_iload_n hx hb d_La_recorded_12 rfl (lv_at hl 1 rfl) ?_
    refine lv_iload_n hx hb d_La_recorded_13 rfl (lv_at hl 2 rfl) ?_
    refine ll_callvi cx hA hX (c_Lb_recordOf l D h cI cZ _ _ _ _ hG) (cw_La_111 cx.1.2.2.2.2 (ll_hR (by omega) (by decide))) (va_recv cx.2 hX.1 (ci := 1) (q0 := 1) rfl rfl) rfl hl.1 rfl (Nat.le_of_ble_eq_true rfl) d_La_recorded_14 ⟨Nat.zero_le _, Nat.zero_le _⟩ (fun r4 f5 H locs hG hX => ?_)
    refine lv_goto (tgt := 21) hx hb d_La_recorded_17 (by decide) ?_
    exact ll_iret cx hr hlk hX hG d_La_recorded_21
def G_La_of (f : ll_S) (a1 : Int32) (a2 : Int32) (K : Int32 → ll_S → Prop) : Prop := (G_Lc_has f a1 (fun r1 f2 => ((¬ r1 = 0 → ((a2 = 0 → (G_Lc_nameOf f2 a1 (fun r5 f6 => K r5 f6))) ∧ (¬ a2 = 0 → ((a2 = 1 → (G_Lc_loaderOf f2 a1 (fun r8 f9 => K r8 f9))) ∧ (¬ a2 = 1 → ((a2 = 2 → (G_Lc_superclassOf f2 a1 (fun r11 f12 => K r11 f12))) ∧ (¬ a2 = 2 → ((a2 = 3 → (G_Lc_interfaceOf f2 a1 (fun r14 f15 => K r14 f15))) ∧ (¬ a2 = 3 → ((a2 = 4 → (G_Lc_marksOf f2 a1 (fun r17 f18 => K r17 f18))) ∧ (¬ a2 = 4 → ((a2 = 5 → (G_Lc_keptFor f2 a1 (a2 - 5) (fun r20 f21 => K r20 f21))) ∧ (¬ a2 = 5 → ((a2 = 6 → (G_Lc_keptFor f2 a1 (a2 - 5) (fun r23 f24 => K r23 f24))) ∧ (¬ a2 = 6 → ((a2 = 7 → (G_Lc_keptFor f2 a1 (a2 - 5) (fun r26 f27 => K r26 f27))) ∧ (¬ a2 = 7 → ((a2 = 8 → (G_Lc_keptFor f2 a1 (a2 - 5) (fun r29 f30 => K r29 f30))) ∧ (¬ a2 = 8 → K (-1) f2))))))))))))))))))) ∧ (r1 = 0 → K (-1) f2))))
set_option maxHeartbeats 4000000 in
set_option maxRecDepth 100000 in
theorem c_La_of (l : Launch) (D : va_G) (h : Nat → Nat) (cI cZ : ClassId) (f : ll_S) (a1 : Int32) (a2 : Int32) (K : Int32 → ll_S → Prop) (hG : G_La_of f a1 a2 K) : ll_Mi l y_La_of (Cond.code y_La_of b_La_of 3 (some .int) :: ll_xt) (ll_rk 2) D [(cI, .int), (cZ, .boolean)] (wd_X h cI cZ) [.ref (h 0), .int a1, .int a2] f K := by
  refine ll_starti (own := "LoaderLab") (by decide) rfl (Nat.le_of_ble_eq_true rfl) (fun p e s m below meth c ls cx hr hlk hA hX hl => ?_)
  have hl : lv_has ls 3 [(0, .ref (h 0)), (1, .int a1), (2, .int a2)] := hl
  obtain ⟨⟨hx, hb, -, -, -⟩, -⟩ := id cx
  unfold G_La_of at hG
  refine lv_aload_n hx hb d_La_of_0 rfl (lv_at hl 0 rfl) ?_
  refine gx_La_classes cx hX d_La_of_1 ?_
  refine lv_iload_n hx hb d_La_of_4 rfl (lv_at hl 1 rfl) ?_
  refine ll_callvi cx hA hX (c_Lc_has l D h cI cZ _ _ _ hG) (cw_La_114 cx.1.2.2.2.2 (ll_hR (by omega) (by decide))) (va_recv cx.2 hX.1 (ci := 2) (q0 := 2) rfl rfl) rfl hl.1 rfl (Nat.le_of_ble_eq_true rfl) d_La_of_5 ⟨Nat.zero_le _, Nat.zero_le _⟩ (fun r1 f2 H locs hG hX => ?_)
  refine lv_if_ne (tgt := 13) hx hb d_La_of_8 (by decide) (fun c3 => ?_) (fun c3 => ?_)
  · have hG := hG.1 c3
    refine lv_iload_n hx hb d_La_of_13 rfl (lv_at hl 2 rfl) ?_
    by_cases c4 : a2 = 0
    · refine lv_tableIn (tgt := 64) hx hb d_La_of_14 (by rw [c4]; decide) (by rw [c4]; decide) (by rw [c4]; rfl) (by decide) ?_
      have hG := hG.1 c4
      refine lv_aload_n hx hb d_La_of_64 rfl (lv_at hl 0 rfl) ?_
      refine gx_La_classes cx hX d_La_of_65 ?_
      refine lv_iload_n hx hb d_La_of_68 rfl (lv_at hl 1 rfl) ?_
      refine ll_callvi cx hA hX (c_Lc_nameOf l D h cI cZ _ _ _ hG) (cw_La_117 cx.1.2.2.2.2 (ll_hR (by omega) (by decide))) (va_recv cx.2 hX.1 (ci := 2) (q0 := 2) rfl rfl) rfl hl.1 rfl (Nat.le_of_ble_eq_true rfl) d_La_of_69 ⟨Nat.zero_le _, Nat.zero_le _⟩ (fun r5 f6 H locs hG hX => ?_)
      exact ll_iret cx hr hlk hX hG d_La_of_72
    replace hG := hG.2 c4
    by_cases c7 : a2 = 1
    · refine lv_tableIn (tgt := 73) hx hb d_La_of_14 (by rw [c7]; decide) (by rw [c7]; decide) (by rw [c7]; rfl) (by decide) ?_
      have hG := hG.1 c7
      refine lv_aload_n hx hb d_La_of_73 rfl (lv_at hl 0 rfl) ?_
      refine gx_La_classes cx hX d_La_of_74 ?_
      refine lv_iload_n hx hb d_La_of_77 rfl (lv_at hl 1 rfl) ?_
      refine ll_callvi cx hA hX (c_Lc_loaderOf l D h cI cZ _ _ _ hG) (cw_La_88 cx.1.2.2.2.2 (ll_hR (by omega) (by decide))) (va_recv cx.2 hX.1 (ci := 2) (q0 := 2) rfl rfl) rfl hl.1 rfl (Nat.le_of_ble_eq_true rfl) d_La_of_78 ⟨Nat.zero_le _, Nat.zero_le _⟩ (fun r8 f9 H locs hG hX => ?_)
      exact ll_iret cx hr hlk hX hG d_La_of_81
    replace hG := hG.2 c7
    by_cases c10 : a2 = 2
    · refine lv_tableIn (tgt := 82) hx hb d_La_of_14 (by rw [c10]; decide) (by rw [c10]; decide) (by rw [c10]; rfl) (by decide) ?_
      have hG := hG.1 c10
      refine lv_aload_n hx hb d_La_of_82 rfl (lv_at hl 0 rfl) ?_
      refine gx_La_classes cx hX d_La_of_83 ?_
      refine lv_iload_n hx hb d_La_of_86 rfl (lv_at hl 1 rfl) ?_
      refine ll_callvi cx hA hX (c_Lc_superclassOf l D h cI cZ _ _ _ hG) (cw_La_120 cx.1.2.2.2.2 (ll_hR (by omega) (by decide))) (va_recv cx.2 hX.1 (ci := 2) (q0 := 2) rfl rfl) rfl hl.1 rfl (Nat.le_of_ble_eq_true rfl) d_La_of_87 ⟨Nat.zero_le _, Nat.zero_le _⟩ (fun r11 f12 H locs hG hX => ?_)
      exact ll_iret cx hr hlk hX hG d_La_of_90
    replace hG := hG.2 c10
    by_cases c13 : a2 = 3
    · refine lv_tableIn (tgt := 91) hx hb d_La_of_14 (by rw [c13]; decide) (by rw [c13]; decide) (by rw [c13]; rfl) (by decide) ?_
      have hG := hG.1 c13
      refine lv_aload_n hx hb d_La_of_91 rfl (lv_at hl 0 rfl) ?_
      refine gx_La_classes cx hX d_La_of_92 ?_
      refine lv_iload_n hx hb d_La_of_95 rfl (lv_at hl 1 rfl) ?_
      refine ll_callvi cx hA hX (c_Lc_interfaceOf l D h cI cZ _ _ _ hG) (cw_La_123 cx.1.2.2.2.2 (ll_hR (by omega) (by decide))) (va_recv cx.2 hX.1 (ci := 2) (q0 := 2) rfl rfl) rfl hl.1 rfl (Nat.le_of_ble_eq_true rfl) d_La_of_96 ⟨Nat.zero_le _, Nat.zero_le _⟩ (fun r14 f15 H locs hG hX => ?_)
      exact ll_iret cx hr hlk hX hG d_La_of_99
    replace hG := hG.2 c13
    by_cases c16 : a2 = 4
    · refine lv_tableIn (tgt := 100) hx hb d_La_of_14 (by rw [c16]; decide) (by rw [c16]; decide) (by rw [c16]; rfl) (by decide) ?_
      have hG := hG.1 c16
      refine lv_aload_n hx hb d_La_of_100 rfl (lv_at hl 0 rfl) ?_
      refine gx_La_classes cx hX d_La_of_101 ?_
      refine lv_iload_n hx hb d_La_of_104 rfl (lv_at hl 1 rfl) ?_
      refine ll_callvi cx hA hX (c_Lc_marksOf l D h cI cZ _ _ _ hG) (cw_La_126 cx.1.2.2.2.2 (ll_hR (by omega) (by decide))) (va_recv cx.2 hX.1 (ci := 2) (q0 := 2) rfl rfl) rfl hl.1 rfl (Nat.le_of_ble_eq_true rfl) d_La_of_105 ⟨Nat.zero_le _, Nat.zero_le _⟩ (fun r17 f18 H locs hG hX => ?_)
      exact ll_iret cx hr hlk hX hG d_La_of_108
    replace hG := hG.2 c16
    by_cases c19 : a2 = 5
    · refine lv_tableIn (tgt := 109) hx hb d_La_of_14 (by rw [c19]; decide) (by rw [c19]; decide) (by rw [c19]; rfl) (by decide) ?_
      have hG := hG.1 c19
      refine lv_aload_n hx hb d_La_of_109 rfl (lv_at hl 0 rfl) ?_
      refine gx_La_classes cx hX d_La_of_110 ?_
      refine lv_iload_n hx hb d_La_of_113 rfl (lv_at hl 1 rfl) ?_
      refine lv_iload_n hx hb d_La_of_114 rfl (lv_at hl 2 rfl) ?_
      refine lv_iconst (v := 5) hx hb d_La_of_115 (by decide) ?_
      refine lv_isub hx hb d_La_of_116 ?_
      refine ll_callvi cx hA hX (c_Lc_keptFor l D h cI cZ _ _ _ _ hG) (cw_La_78 cx.1.2.2.2.2 (ll_hR (by omega) (by decide))) (va_recv cx.2 hX.1 (ci := 2) (q0 := 2) rfl rfl) rfl hl.1 rfl (Nat.le_of_ble_eq_true rfl) d_La_of_117 ⟨Nat.zero_le _, Nat.zero_le _⟩ (fun r20 f21 H locs hG hX => ?_)
      exact ll_iret cx hr hlk hX hG d_La_of_120
    replace hG := hG.2 c19
    by_cases c22 : a2 = 6
    · refine lv_tableIn (tgt := 109) hx hb d_La_of_14 (by rw [c22]; decide) (by rw [c22]; decide) (by rw [c22]; rfl) (by decide) ?_
      have hG := hG.1 c22
      refine lv_aload_n hx hb d_La_of_109 rfl (lv_at hl 0 rfl) ?_
      refine gx_La_classes cx hX d_La_of_110 ?_
      refine lv_iload_n hx hb d_La_of_113 rfl (lv_at hl 1 rfl) ?_
      refine lv_iload_n hx hb d_La_of_114 rfl (lv_at hl 2 rfl) ?_
      refine lv_iconst (v := 5) hx hb d_La_of_115 (by decide) ?_
      refine lv_isub hx hb d_La_of_116 ?_
      refine ll_callvi cx hA hX (c_Lc_keptFor l D h cI cZ _ _ _ _ hG) (cw_La_78 cx.1.2.2.2.2 (ll_hR (by omega) (by decide))) (va_recv cx.2 hX.1 (ci := 2) (q0 := 2) rfl rfl) rfl hl.1 rfl (Nat.le_of_ble_eq_true rfl) d_La_of_117 ⟨Nat.zero_le _, Nat.zero_le _⟩ (fun r23 f24 H locs hG hX => ?_)
      exact ll_iret cx hr hlk hX hG d_La_of_120
    replace hG := hG.2 c22
    by_cases c25 : a2 = 7
    · refine lv_tableIn (tgt := 109) hx hb d_La_of_14 (by rw [c25]; decide) (by rw [c25]; decide) (by rw [c25]; rfl) (by decide) ?_
      have hG := hG.1 c25
      refine lv_aload_n hx hb d_La_of_109 rfl (lv_at hl 0 rfl) ?_
      refine gx_La_classes cx hX d_La_of_110 ?_
      refine lv_iload_n hx hb d_La_of_113 rfl (lv_at hl 1 rfl) ?_
      refine lv_iload_n hx hb d_La_of_114 rfl (lv_at hl 2 rfl) ?_
      refine lv_iconst (v := 5) hx hb d_La_of_115 (by decide) ?_
      refine lv_isub hx hb d_La_of_116 ?_
      refine ll_callvi cx hA hX (c_Lc_keptFor l D h cI cZ _ _ _ _ hG) (cw_La_78 cx.1.2.2.2.2 (ll_hR (by omega) (by decide))) (va_recv cx.2 hX.1 (ci := 2) (q0 := 2) rfl rfl) rfl hl.1 rfl (Nat.le_of_ble_eq_true rfl) d_La_of_117 ⟨Nat.zero_le _, Nat.zero_le _⟩ (fun r26 f27 H locs hG hX => ?_)
      exact ll_iret cx hr hlk hX hG d_La_of_120
    replace hG := hG.2 c25
    by_cases c28 : a2 = 8
    · refine lv_tableIn (tgt := 109) hx hb d_La_of_14 (by rw [c28]; decide) (by rw [c28]; decide) (by rw [c28]; rfl) (by decide) ?_
      have hG := hG.1 c28
      refine lv_aload_n hx hb d_La_of_109 rfl (lv_at hl 0 rfl) ?_
      refine gx_La_classes cx hX d_La_of_110 ?_
      refine lv_iload_n hx hb d_La_of_113 rfl (lv_at hl 1 rfl) ?_
      refine lv_iload_n hx hb d_La_of_114 rfl (lv_at hl 2 rfl) ?_
      refine lv_iconst (v := 5) hx hb d_La_of_115 (by decide) ?_
      refine lv_isub hx hb d_La_of_116 ?_
      refine ll_callvi cx hA hX (c_Lc_keptFor l D h cI cZ _ _ _ _ hG) (cw_La_78 cx.1.2.2.2.2 (ll_hR (by omega) (by decide))) (va_recv cx.2 hX.1 (ci := 2) (q0 := 2) rfl rfl) rfl hl.1 rfl (Nat.le_of_ble_eq_true rfl) d_La_of_117 ⟨Nat.zero_le _, Nat.zero_le _⟩ (fun r29 f30 H locs hG hX => ?_)
      exact ll_iret cx hr hlk hX hG d_La_of_120
    replace hG := hG.2 c28
    refine lv_tableOut (tgt := 121) hx hb d_La_of_14 (by have := lv_neT c4 (a := 0) (by decide); have := lv_neT c7 (a := 1) (by decide); have := lv_neT c10 (a := 2) (by decide); have := lv_neT c13 (a := 3) (by decide); have := lv_neT c16 (a := 4) (by decide); have := lv_neT c19 (a := 5) (by decide); have := lv_neT c22 (a := 6) (by decide); have := lv_neT c25 (a := 7) (by decide); have := lv_neT c28 (a := 8) (by decide); omega) (by decide) ?_
    refine lv_iconst (v := (-1)) hx hb d_La_of_121 (by decide) ?_
    exact ll_iret cx hr hlk hX hG d_La_of_122
  · have hG := hG.2 c3
    refine lv_iconst (v := (-1)) hx hb d_La_of_11 (by decide) ?_
    exact ll_iret cx hr hlk hX hG d_La_of_12
def G_La_isA (f : ll_S) (a1 : Int32) (a2 : Int32) (K : Int32 → ll_S → Prop) : Prop := (G_Lc_has f a1 (fun r1 f2 => ((r1 = 0 → K 0 f2) ∧ (¬ r1 = 0 → (G_Lc_has f2 a2 (fun r4 f5 => ((r4 = 0 → K 0 f5) ∧ (¬ r4 = 0 → (G_Lc_leadsTo f5 a1 a2 (fun r7 f8 => ((r7 = 0 → K 0 f8) ∧ (¬ r7 = 0 → K 1 f8))))))))))))
set_option maxHeartbeats 4000000 in
set_option maxRecDepth 100000 in
theorem c_La_isA (l : Launch) (D : va_G) (h : Nat → Nat) (cI cZ : ClassId) (f : ll_S) (a1 : Int32) (a2 : Int32) (K : Int32 → ll_S → Prop) (hG : G_La_isA f a1 a2 K) : ll_Mi l y_La_isA (Cond.code y_La_isA b_La_isA 3 (some .boolean) :: ll_xt) (ll_rk 1) D [(cI, .int), (cZ, .boolean)] (wd_X h cI cZ) [.ref (h 0), .int a1, .int a2] f K := by
  refine ll_starti (own := "LoaderLab") (by decide) rfl (Nat.le_of_ble_eq_true rfl) (fun p e s m below meth c ls cx hr hlk hA hX hl => ?_)
  have hl : lv_has ls 3 [(0, .ref (h 0)), (1, .int a1), (2, .int a2)] := hl
  obtain ⟨⟨hx, hb, -, -, -⟩, -⟩ := id cx
  unfold G_La_isA at hG
  refine lv_aload_n hx hb d_La_isA_0 rfl (lv_at hl 0 rfl) ?_
  refine gx_La_classes cx hX d_La_isA_1 ?_
  refine lv_iload_n hx hb d_La_isA_4 rfl (lv_at hl 1 rfl) ?_
  refine ll_callvi cx hA hX (c_Lc_has l D h cI cZ _ _ _ hG) (cw_La_114 cx.1.2.2.2.2 (ll_hR (by omega) (by decide))) (va_recv cx.2 hX.1 (ci := 2) (q0 := 2) rfl rfl) rfl hl.1 rfl (Nat.le_of_ble_eq_true rfl) d_La_isA_5 ⟨Nat.zero_le _, Nat.zero_le _⟩ (fun r1 f2 H locs hG hX => ?_)
  refine lv_if_eq (tgt := 38) hx hb d_La_isA_8 (by decide) (fun c3 => ?_) (fun c3 => ?_)
  · have hG := hG.1 c3
    refine lv_iconst (v := 0) hx hb d_La_isA_38 (by decide) ?_
    exact ll_zret cx hr hlk hX (by decide) hG d_La_isA_39
  · have hG := hG.2 c3
    refine lv_aload_n hx hb d_La_isA_11 rfl (lv_at hl 0 rfl) ?_
    refine gx_La_classes cx hX d_La_isA_12 ?_
    refine lv_iload_n hx hb d_La_isA_15 rfl (lv_at hl 2 rfl) ?_
    refine ll_callvi cx hA hX (c_Lc_has l D h cI cZ _ _ _ hG) (cw_La_114 cx.1.2.2.2.2 (ll_hR (by omega) (by decide))) (va_recv cx.2 hX.1 (ci := 2) (q0 := 2) rfl rfl) rfl hl.1 rfl (Nat.le_of_ble_eq_true rfl) d_La_isA_16 ⟨Nat.zero_le _, Nat.zero_le _⟩ (fun r4 f5 H locs hG hX => ?_)
    refine lv_if_eq (tgt := 38) hx hb d_La_isA_19 (by decide) (fun c6 => ?_) (fun c6 => ?_)
    · have hG := hG.1 c6
      refine lv_iconst (v := 0) hx hb d_La_isA_38 (by decide) ?_
      exact ll_zret cx hr hlk hX (by decide) hG d_La_isA_39
    · have hG := hG.2 c6
      refine lv_aload_n hx hb d_La_isA_22 rfl (lv_at hl 0 rfl) ?_
      refine gx_La_classes cx hX d_La_isA_23 ?_
      refine lv_iload_n hx hb d_La_isA_26 rfl (lv_at hl 1 rfl) ?_
      refine lv_iload_n hx hb d_La_isA_27 rfl (lv_at hl 2 rfl) ?_
      refine ll_callvi cx hA hX (c_Lc_leadsTo l D h cI cZ _ _ _ _ hG) (cw_La_129 cx.1.2.2.2.2 (ll_hR (by omega) (by decide))) (va_recv cx.2 hX.1 (ci := 2) (q0 := 2) rfl rfl) rfl hl.1 rfl (Nat.le_of_ble_eq_true rfl) d_La_isA_28 ⟨Nat.zero_le _, Nat.zero_le _⟩ (fun r7 f8 H locs hG hX => ?_)
      refine lv_if_eq (tgt := 38) hx hb d_La_isA_31 (by decide) (fun c9 => ?_) (fun c9 => ?_)
      · have hG := hG.1 c9
        refine lv_iconst (v := 0) hx hb d_La_isA_38 (by decide) ?_
        exact ll_zret cx hr hlk hX (by decide) hG d_La_isA_39
      · have hG := hG.2 c9
        refine lv_iconst (v := 1) hx hb d_La_isA_34 (by decide) ?_
        refine lv_goto (tgt := 39) hx hb d_La_isA_35 (by decide) ?_
        exact ll_zret cx hr hlk hX (by decide) hG d_La_isA_39
def G_La_count (f : ll_S) (a1 : Int32) (K : Int32 → ll_S → Prop) : Prop := ((a1 = 0 → (G_Lc_size f  (fun r2 f3 => K r2 f3))) ∧ (¬ a1 = 0 → ((a1 = 1 → (G_Lb_countRecords f  (fun r5 f6 => K r5 f6))) ∧ (¬ a1 = 1 → ((a1 = 2 → (G_Lb_countFiles f  (fun r8 f9 => K r8 f9))) ∧ (¬ a1 = 2 → ((a1 = 3 → (G_Lb_countPeers f  (fun r11 f12 => K r11 f12))) ∧ (¬ a1 = 3 → K (-1) f))))))))
set_option maxHeartbeats 4000000 in
set_option maxRecDepth 100000 in
theorem c_La_count (l : Launch) (D : va_G) (h : Nat → Nat) (cI cZ : ClassId) (f : ll_S) (a1 : Int32) (K : Int32 → ll_S → Prop) (hG : G_La_count f a1 K) : ll_Mi l y_La_count (Cond.code y_La_count b_La_count 2 (some .int) :: ll_xt) (ll_rk 2) D [(cI, .int), (cZ, .boolean)] (wd_X h cI cZ) [.ref (h 0), .int a1] f K := by
  refine ll_starti (own := "LoaderLab") (by decide) rfl (Nat.le_of_ble_eq_true rfl) (fun p e s m below meth c ls cx hr hlk hA hX hl => ?_)
  have hl : lv_has ls 2 [(0, .ref (h 0)), (1, .int a1)] := hl
  obtain ⟨⟨hx, hb, -, -, -⟩, -⟩ := id cx
  unfold G_La_count at hG
  refine lv_iload_n hx hb d_La_count_0 rfl (lv_at hl 1 rfl) ?_
  by_cases c1 : a1 = 0
  · refine lv_tableIn (tgt := 32) hx hb d_La_count_1 (by rw [c1]; decide) (by rw [c1]; decide) (by rw [c1]; rfl) (by decide) ?_
    have hG := hG.1 c1
    refine lv_aload_n hx hb d_La_count_32 rfl (lv_at hl 0 rfl) ?_
    refine gx_La_classes cx hX d_La_count_33 ?_
    refine ll_callvi cx hA hX (c_Lc_size l D h cI cZ _ _ hG) (cw_La_132 cx.1.2.2.2.2 (ll_hR (by omega) (by decide))) (va_recv cx.2 hX.1 (ci := 2) (q0 := 2) rfl rfl) rfl hl.1 rfl (Nat.le_of_ble_eq_true rfl) d_La_count_36 ⟨Nat.zero_le _, Nat.zero_le _⟩ (fun r2 f3 H locs hG hX => ?_)
    exact ll_iret cx hr hlk hX hG d_La_count_39
  replace hG := hG.2 c1
  by_cases c4 : a1 = 1
  · refine lv_tableIn (tgt := 40) hx hb d_La_count_1 (by rw [c4]; decide) (by rw [c4]; decide) (by rw [c4]; rfl) (by decide) ?_
    have hG := hG.1 c4
    refine lv_aload_n hx hb d_La_count_40 rfl (lv_at hl 0 rfl) ?_
    refine gx_La_loaders cx hX d_La_count_41 ?_
    refine ll_callvi cx hA hX (c_Lb_countRecords l D h cI cZ _ _ hG) (cw_La_136 cx.1.2.2.2.2 (ll_hR (by omega) (by decide))) (va_recv cx.2 hX.1 (ci := 1) (q0 := 1) rfl rfl) rfl hl.1 rfl (Nat.le_of_ble_eq_true rfl) d_La_count_44 ⟨Nat.zero_le _, Nat.zero_le _⟩ (fun r5 f6 H locs hG hX => ?_)
    exact ll_iret cx hr hlk hX hG d_La_count_47
  replace hG := hG.2 c4
  by_cases c7 : a1 = 2
  · refine lv_tableIn (tgt := 48) hx hb d_La_count_1 (by rw [c7]; decide) (by rw [c7]; decide) (by rw [c7]; rfl) (by decide) ?_
    have hG := hG.1 c7
    refine lv_aload_n hx hb d_La_count_48 rfl (lv_at hl 0 rfl) ?_
    refine gx_La_loaders cx hX d_La_count_49 ?_
    refine ll_callvi cx hA hX (c_Lb_countFiles l D h cI cZ _ _ hG) (cw_La_139 cx.1.2.2.2.2 (ll_hR (by omega) (by decide))) (va_recv cx.2 hX.1 (ci := 1) (q0 := 1) rfl rfl) rfl hl.1 rfl (Nat.le_of_ble_eq_true rfl) d_La_count_52 ⟨Nat.zero_le _, Nat.zero_le _⟩ (fun r8 f9 H locs hG hX => ?_)
    exact ll_iret cx hr hlk hX hG d_La_count_55
  replace hG := hG.2 c7
  by_cases c10 : a1 = 3
  · refine lv_tableIn (tgt := 56) hx hb d_La_count_1 (by rw [c10]; decide) (by rw [c10]; decide) (by rw [c10]; rfl) (by decide) ?_
    have hG := hG.1 c10
    refine lv_aload_n hx hb d_La_count_56 rfl (lv_at hl 0 rfl) ?_
    refine gx_La_loaders cx hX d_La_count_57 ?_
    refine ll_callvi cx hA hX (c_Lb_countPeers l D h cI cZ _ _ hG) (cw_La_142 cx.1.2.2.2.2 (ll_hR (by omega) (by decide))) (va_recv cx.2 hX.1 (ci := 1) (q0 := 1) rfl rfl) rfl hl.1 rfl (Nat.le_of_ble_eq_true rfl) d_La_count_60 ⟨Nat.zero_le _, Nat.zero_le _⟩ (fun r11 f12 H locs hG hX => ?_)
    exact ll_iret cx hr hlk hX hG d_La_count_63
  replace hG := hG.2 c10
  refine lv_tableOut (tgt := 64) hx hb d_La_count_1 (by have := lv_neT c1 (a := 0) (by decide); have := lv_neT c4 (a := 1) (by decide); have := lv_neT c7 (a := 2) (by decide); have := lv_neT c10 (a := 3) (by decide); omega) (by decide) ?_
  refine lv_iconst (v := (-1)) hx hb d_La_count_64 (by decide) ?_
  exact ll_iret cx hr hlk hX hG d_La_count_65
def G_La_fail (f : ll_S) (a1 : Int32) (K : Int32 → ll_S → Prop) : Prop := (G_La_failBecause f a1 0 (fun r1 f2 => K r1 f2))
set_option maxHeartbeats 4000000 in
set_option maxRecDepth 100000 in
theorem c_La_fail (l : Launch) (D : va_G) (h : Nat → Nat) (cI cZ : ClassId) (f : ll_S) (a1 : Int32) (K : Int32 → ll_S → Prop) (hG : G_La_fail f a1 K) : ll_Mi l y_La_fail (Cond.code y_La_fail b_La_fail 2 (some .int) :: ll_xt) (ll_rk 1) D [(cI, .int), (cZ, .boolean)] (wd_X h cI cZ) [.ref (h 0), .int a1] f K := by
  refine ll_starti (own := "LoaderLab") (by decide) rfl (Nat.le_of_ble_eq_true rfl) (fun p e s m below meth c ls cx hr hlk hA hX hl => ?_)
  have hl : lv_has ls 2 [(0, .ref (h 0)), (1, .int a1)] := hl
  obtain ⟨⟨hx, hb, -, -, -⟩, -⟩ := id cx
  unfold G_La_fail at hG
  refine lv_aload_n hx hb d_La_fail_0 rfl (lv_at hl 0 rfl) ?_
  refine lv_iload_n hx hb d_La_fail_1 rfl (lv_at hl 1 rfl) ?_
  refine lv_iconst (v := 0) hx hb d_La_fail_2 (by decide) ?_
  refine ll_callvi cx hA hX (c_La_failBecause l D h cI cZ _ _ _ _ hG) (cw_La_148 cx.1.2.2.2.2 (ll_hR (by omega) (by decide))) (va_recv cx.2 hX.1 (ci := 0) (q0 := 0) rfl rfl) rfl hl.1 rfl (Nat.le_of_ble_eq_true rfl) d_La_fail_3 ⟨Nat.zero_le _, Nat.zero_le _⟩ (fun r1 f2 H locs hG hX => ?_)
  exact ll_iret cx hr hlk hX hG d_La_fail_6
def G_La_accept (f : ll_S) (a1 : Int32) (a2 : Int32) (a3 : Int32) (K : Int32 → ll_S → Prop) : Prop := ((¬ a3 = 0 → (G_Lc_nameOf f a3 (fun r2 f3 => ((r2 = a2 → (G_Lb_peersDiffer f3 a1 a2 a3 (fun r5 f6 => ((r5 = 0 → (G_Lb_putRecord f6 a1 a2 a3 (fun f9 => K a3 f9))) ∧ (¬ r5 = 0 → (G_La_fail f6 (-9) (fun r10 f11 => K r10 f11))))))) ∧ (¬ r2 = a2 → (G_La_fail f3 (-5) (fun r12 f13 => K r12 f13))))))) ∧ (a3 = 0 → (G_La_fail f (-4) (fun r14 f15 => K r14 f15))))
set_option maxHeartbeats 4000000 in
set_option maxRecDepth 100000 in
theorem c_La_accept (l : Launch) (D : va_G) (h : Nat → Nat) (cI cZ : ClassId) (f : ll_S) (a1 : Int32) (a2 : Int32) (a3 : Int32) (K : Int32 → ll_S → Prop) (hG : G_La_accept f a1 a2 a3 K) : ll_Mi l y_La_accept (Cond.code y_La_accept b_La_accept 4 (some .int) :: ll_xt) (ll_rk 4) D [(cI, .int), (cZ, .boolean)] (wd_X h cI cZ) [.ref (h 0), .int a1, .int a2, .int a3] f K := by
  refine ll_starti (own := "LoaderLab") (by decide) rfl (Nat.le_of_ble_eq_true rfl) (fun p e s m below meth c ls cx hr hlk hA hX hl => ?_)
  have hl : lv_has ls 4 [(0, .ref (h 0)), (1, .int a1), (2, .int a2), (3, .int a3)] := hl
  obtain ⟨⟨hx, hb, -, -, -⟩, -⟩ := id cx
  unfold G_La_accept at hG
  refine lv_iload_n hx hb d_La_accept_0 rfl (lv_at hl 3 rfl) ?_
  refine lv_if_ne (tgt := 11) hx hb d_La_accept_1 (by decide) (fun c1 => ?_) (fun c1 => ?_)
  · have hG := hG.1 c1
    refine lv_aload_n hx hb d_La_accept_11 rfl (lv_at hl 0 rfl) ?_
    refine gx_La_classes cx hX d_La_accept_12 ?_
    refine lv_iload_n hx hb d_La_accept_15 rfl (lv_at hl 3 rfl) ?_
    refine ll_callvi cx hA hX (c_Lc_nameOf l D h cI cZ _ _ _ hG) (cw_La_117 cx.1.2.2.2.2 (ll_hR (by omega) (by decide))) (va_recv cx.2 hX.1 (ci := 2) (q0 := 2) rfl rfl) rfl hl.1 rfl (Nat.le_of_ble_eq_true rfl) d_La_accept_16 ⟨Nat.zero_le _, Nat.zero_le _⟩ (fun r2 f3 H locs hG hX => ?_)
    refine lv_iload_n hx hb d_La_accept_19 rfl (lv_at hl 2 rfl) ?_
    refine lv_icmp_eq (tgt := 30) hx hb d_La_accept_20 (by decide) (fun c4 => ?_) (fun c4 => ?_)
    · have hG := hG.1 c4
      refine lv_aload_n hx hb d_La_accept_30 rfl (lv_at hl 0 rfl) ?_
      refine gx_La_loaders cx hX d_La_accept_31 ?_
      refine lv_iload_n hx hb d_La_accept_34 rfl (lv_at hl 1 rfl) ?_
      refine lv_iload_n hx hb d_La_accept_35 rfl (lv_at hl 2 rfl) ?_
      refine lv_iload_n hx hb d_La_accept_36 rfl (lv_at hl 3 rfl) ?_
      refine ll_callvi cx hA hX (c_Lb_peersDiffer l D h cI cZ _ _ _ _ _ hG) (cw_La_167 cx.1.2.2.2.2 (ll_hR (by omega) (by decide))) (va_recv cx.2 hX.1 (ci := 1) (q0 := 1) rfl rfl) rfl hl.1 rfl (Nat.le_of_ble_eq_true rfl) d_La_accept_37 ⟨Nat.zero_le _, Nat.zero_le _⟩ (fun r5 f6 H locs hG hX => ?_)
      refine lv_if_eq (tgt := 50) hx hb d_La_accept_40 (by decide) (fun c7 => ?_) (fun c7 => ?_)
      · have hG := hG.1 c7
        refine lv_aload_n hx hb d_La_accept_50 rfl (lv_at hl 0 rfl) ?_
        refine gx_La_loaders cx hX d_La_accept_51 ?_
        refine lv_iload_n hx hb d_La_accept_54 rfl (lv_at hl 1 rfl) ?_
        refine lv_iload_n hx hb d_La_accept_55 rfl (lv_at hl 2 rfl) ?_
        refine lv_iload_n hx hb d_La_accept_56 rfl (lv_at hl 3 rfl) ?_
        refine ll_callvv cx hA hX (c_Lb_putRecord l D h cI cZ _ _ _ _ _ hG) (cw_La_170 cx.1.2.2.2.2 (ll_hR (by omega) (by decide))) (va_recv cx.2 hX.1 (ci := 1) (q0 := 1) rfl rfl) rfl hl.1 rfl (Nat.le_of_ble_eq_true rfl) d_La_accept_57 ⟨Nat.zero_le _, Nat.zero_le _⟩ (fun f9 H locs hG hX => ?_)
        refine lv_iload_n hx hb d_La_accept_60 rfl (lv_at hl 3 rfl) ?_
        exact ll_iret cx hr hlk hX hG d_La_accept_61
      · have hG := hG.2 c7
        refine lv_aload_n hx hb d_La_accept_43 rfl (lv_at hl 0 rfl) ?_
        refine lv_bipush (v := (-9)) hx hb d_La_accept_44 (by decide) ?_
        refine ll_callvi cx hA hX (c_La_fail l D h cI cZ _ _ _ hG) (cw_La_154 cx.1.2.2.2.2 (ll_hR (by omega) (by decide))) (va_recv cx.2 hX.1 (ci := 0) (q0 := 0) rfl rfl) rfl hl.1 rfl (Nat.le_of_ble_eq_true rfl) d_La_accept_46 ⟨Nat.zero_le _, Nat.zero_le _⟩ (fun r10 f11 H locs hG hX => ?_)
        exact ll_iret cx hr hlk hX hG d_La_accept_49
    · have hG := hG.2 c4
      refine lv_aload_n hx hb d_La_accept_23 rfl (lv_at hl 0 rfl) ?_
      refine lv_bipush (v := (-5)) hx hb d_La_accept_24 (by decide) ?_
      refine ll_callvi cx hA hX (c_La_fail l D h cI cZ _ _ _ hG) (cw_La_154 cx.1.2.2.2.2 (ll_hR (by omega) (by decide))) (va_recv cx.2 hX.1 (ci := 0) (q0 := 0) rfl rfl) rfl hl.1 rfl (Nat.le_of_ble_eq_true rfl) d_La_accept_26 ⟨Nat.zero_le _, Nat.zero_le _⟩ (fun r12 f13 H locs hG hX => ?_)
      exact ll_iret cx hr hlk hX hG d_La_accept_29
  · have hG := hG.2 c1
    refine lv_aload_n hx hb d_La_accept_4 rfl (lv_at hl 0 rfl) ?_
    refine lv_bipush (v := (-4)) hx hb d_La_accept_5 (by decide) ?_
    refine ll_callvi cx hA hX (c_La_fail l D h cI cZ _ _ _ hG) (cw_La_154 cx.1.2.2.2.2 (ll_hR (by omega) (by decide))) (va_recv cx.2 hX.1 (ci := 0) (q0 := 0) rfl rfl) rfl hl.1 rfl (Nat.le_of_ble_eq_true rfl) d_La_accept_7 ⟨Nat.zero_le _, Nat.zero_le _⟩ (fun r14 f15 H locs hG hX => ?_)
    exact ll_iret cx hr hlk hX hG d_La_accept_10
