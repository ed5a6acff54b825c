def G_Lm_in (f : ll_S) (a1 : Int32) (a2 : Int32) (a3 : Int32) (K : Int32 → ll_S → Prop) : Prop := ((a1 < a2 → K 0 f) ∧ (¬ a1 < a2 → ((a3 < a1 → K 0 f) ∧ (¬ a3 < a1 → K 1 f))))
set_option maxHeartbeats 4000000 in
set_option maxRecDepth 100000 in
theorem c_Lm_in (l : Launch) (D : va_G) (h : Nat → Nat) (cI cZ : ClassId) (f : ll_S) (a1 : Int32) (a2 : Int32) (a3 : Int32) (K : Int32 → ll_S → Prop) (hG : G_Lm_in f a1 a2 a3 K) : ll_Mi l y_Lm_in (Cond.code y_Lm_in b_Lm_in 3 (some .boolean) :: ll_xt) (ll_rk 0) D [(cI, .int), (cZ, .boolean)] (wd_M h cI cZ) [.int a1, .int a2, .int a3] f K := by
  refine ll_starti (own := "LoaderLabModel") (by decide) rfl (Nat.le_of_ble_eq_true rfl) (fun p e s m below meth c ls cx hr hlk hA hX hl => ?_)
  have hl : lv_has ls 3 [(0, .int a1), (1, .int a2), (2, .int a3)] := hl
  obtain ⟨⟨hx, hb, -, -, -⟩, -⟩ := id cx
  unfold G_Lm_in at hG
  refine lv_iload_n hx hb d_Lm_in_0 rfl (lv_at hl 0 rfl) ?_
  refine lv_iload_n hx hb d_Lm_in_1 rfl (lv_at hl 1 rfl) ?_
  refine lv_icmp_lt (tgt := 14) hx hb d_Lm_in_2 (by decide) (fun c1 => ?_) (fun c1 => ?_)
  · have hG := hG.1 c1
    refine lv_iconst (v := 0) hx hb d_Lm_in_14 (by decide) ?_
    exact ll_zret cx hr hlk hX (by decide) hG d_Lm_in_15
  · have hG := hG.2 c1
    refine lv_iload_n hx hb d_Lm_in_5 rfl (lv_at hl 0 rfl) ?_
    refine lv_iload_n hx hb d_Lm_in_6 rfl (lv_at hl 2 rfl) ?_
    refine lv_icmp_gt (tgt := 14) hx hb d_Lm_in_7 (by decide) (fun c2 => ?_) (fun c2 => ?_)
    · have hG := hG.1 c2
      refine lv_iconst (v := 0) hx hb d_Lm_in_14 (by decide) ?_
      exact ll_zret cx hr hlk hX (by decide) hG d_Lm_in_15
    · have hG := hG.2 c2
      refine lv_iconst (v := 1) hx hb d_Lm_in_10 (by decide) ?_
      refine lv_goto (tgt := 15) hx hb d_Lm_in_11 (by decide) ?_
      exact ll_zret cx hr hlk hX (by decide) hG d_Lm_in_15
def G_Lm_place (f : ll_S) (a1 : Int32) (a2 : Int32) (K : Int32 → ll_S → Prop) : Prop := (G_Lm_in f a1 0 4 (fun r1 f2 => ((r1 = 0 → K 0 f2) ∧ (¬ r1 = 0 → (G_Lm_in f2 a2 0 7 (fun r4 f5 => ((r4 = 0 → K 0 f5) ∧ (¬ r4 = 0 → K 1 f5))))))))
set_option maxHeartbeats 4000000 in
set_option maxRecDepth 100000 in
theorem c_Lm_place (l : Launch) (D : va_G) (h : Nat → Nat) (cI cZ : ClassId) (f : ll_S) (a1 : Int32) (a2 : Int32) (K : Int32 → ll_S → Prop) (hG : G_Lm_place f a1 a2 K) : ll_Mi l y_Lm_place (Cond.code y_Lm_place b_Lm_place 2 (some .boolean) :: ll_xt) (ll_rk 1) D [(cI, .int), (cZ, .boolean)] (wd_M h cI cZ) [.int a1, .int a2] f K := by
  refine ll_starti (own := "LoaderLabModel") (by decide) rfl (Nat.le_of_ble_eq_true rfl) (fun p e s m below meth c ls cx hr hlk hA hX hl => ?_)
  have hl : lv_has ls 2 [(0, .int a1), (1, .int a2)] := hl
  obtain ⟨⟨hx, hb, -, -, -⟩, -⟩ := id cx
  unfold G_Lm_place at hG
  refine lv_iload_n hx hb d_Lm_place_0 rfl (lv_at hl 0 rfl) ?_
  refine lv_iconst (v := 0) hx hb d_Lm_place_1 (by decide) ?_
  refine lv_iconst (v := 4) hx hb d_Lm_place_2 (by decide) ?_
  refine ll_callsi cx hA hX (c_Lm_in l D h cI cZ _ _ _ _ _ hG) (cw_Lm_77 cx.1.2.2.2.2 (ll_hR (by omega) (by decide))) rfl hl.1 rfl (Nat.le_of_ble_eq_true rfl) d_Lm_place_3 ⟨Nat.zero_le _, Nat.zero_le _⟩ (fun r1 f2 H locs hG hX => ?_)
  refine lv_if_eq (tgt := 23) hx hb d_Lm_place_6 (by decide) (fun c3 => ?_) (fun c3 => ?_)
  · have hG := hG.1 c3
    refine lv_iconst (v := 0) hx hb d_Lm_place_23 (by decide) ?_
    exact ll_zret cx hr hlk hX (by decide) hG d_Lm_place_24
  · have hG := hG.2 c3
    refine lv_iload_n hx hb d_Lm_place_9 rfl (lv_at hl 1 rfl) ?_
    refine lv_iconst (v := 0) hx hb d_Lm_place_10 (by decide) ?_
    refine lv_bipush (v := 7) hx hb d_Lm_place_11 (by decide) ?_
    refine ll_callsi cx hA hX (c_Lm_in l D h cI cZ _ _ _ _ _ hG) (cw_Lm_77 cx.1.2.2.2.2 (ll_hR (by omega) (by decide))) rfl hl.1 rfl (Nat.le_of_ble_eq_true rfl) d_Lm_place_13 ⟨Nat.zero_le _, Nat.zero_le _⟩ (fun r4 f5 H locs hG hX => ?_)
    refine lv_if_eq (tgt := 23) hx hb d_Lm_place_16 (by decide) (fun c6 => ?_) (fun c6 => ?_)
    · have hG := hG.1 c6
      refine lv_iconst (v := 0) hx hb d_Lm_place_23 (by decide) ?_
      exact ll_zret cx hr hlk hX (by decide) hG d_Lm_place_24
    · have hG := hG.2 c6
      refine lv_iconst (v := 1) hx hb d_Lm_place_19 (by decide) ?_
      refine lv_goto (tgt := 24) hx hb d_Lm_place_20 (by decide) ?_
      exact ll_zret cx hr hlk hX (by decide) hG d_Lm_place_24
def G_Lm_parent (f : ll_S) (a1 : Int32) (a2 : Int32) (K : Int32 → ll_S → Prop) : Prop := (G_Lm_in f a1 1 4 (fun r1 f2 => ((r1 = 0 → K (-1) f2) ∧ (¬ r1 = 0 → (G_Lm_in f2 a2 (-1) (a1 - 1) (fun r4 f5 => ((¬ r4 = 0 → (vp_in a1 5 ∧ ∀ f7, f7 = ll_w f5 0 (a1).toNatClampNeg a2 → K 0 f7)) ∧ (r4 = 0 → K (-1) f5))))))))
set_option maxHeartbeats 4000000 in
set_option maxRecDepth 100000 in
theorem c_Lm_parent (l : Launch) (D : va_G) (h : Nat → Nat) (cI cZ : ClassId) (f : ll_S) (a1 : Int32) (a2 : Int32) (K : Int32 → ll_S → Prop) (hG : G_Lm_parent f a1 a2 K) : ll_Mi l y_Lm_parent (Cond.code y_Lm_parent b_Lm_parent 3 (some .int) :: ll_xt) (ll_rk 1) D [(cI, .int), (cZ, .boolean)] (wd_M h cI cZ) [.ref (h 0), .int a1, .int a2] f K := by
  refine ll_starti (own := "LoaderLabModel") (by decide) rfl (Nat.le_of_ble_eq_true rfl) (fun p e s m below meth c ls cx hr hlk hA hX hl => ?_)
  have hl : lv_has ls 3 [(0, .ref (h 0)), (1, .int a1), (2, .int a2)] := hl
  obtain ⟨⟨hx, hb, -, -, -⟩, -⟩ := id cx
  unfold G_Lm_parent at hG
  refine lv_iload_n hx hb d_Lm_parent_0 rfl (lv_at hl 1 rfl) ?_
  refine lv_iconst (v := 1) hx hb d_Lm_parent_1 (by decide) ?_
  refine lv_iconst (v := 4) hx hb d_Lm_parent_2 (by decide) ?_
  refine ll_callsi cx hA hX (c_Lm_in l D h cI cZ _ _ _ _ _ hG) (cw_Lm_77 cx.1.2.2.2.2 (ll_hR (by omega) (by decide))) rfl hl.1 rfl (Nat.le_of_ble_eq_true rfl) d_Lm_parent_3 ⟨Nat.zero_le _, Nat.zero_le _⟩ (fun r1 f2 H locs hG hX => ?_)
  refine lv_if_eq (tgt := 20) hx hb d_Lm_parent_6 (by decide) (fun c3 => ?_) (fun c3 => ?_)
  · have hG := hG.1 c3
    refine lv_iconst (v := (-1)) hx hb d_Lm_parent_20 (by decide) ?_
    exact ll_iret cx hr hlk hX hG d_Lm_parent_21
  · have hG := hG.2 c3
    refine lv_iload_n hx hb d_Lm_parent_9 rfl (lv_at hl 2 rfl) ?_
    refine lv_iconst (v := (-1)) hx hb d_Lm_parent_10 (by decide) ?_
    refine lv_iload_n hx hb d_Lm_parent_11 rfl (lv_at hl 1 rfl) ?_
    refine lv_iconst (v := 1) hx hb d_Lm_parent_12 (by decide) ?_
    refine lv_isub hx hb d_Lm_parent_13 ?_
    refine ll_callsi cx hA hX (c_Lm_in l D h cI cZ _ _ _ _ _ hG) (cw_Lm_77 cx.1.2.2.2.2 (ll_hR (by omega) (by decide))) rfl hl.1 rfl (Nat.le_of_ble_eq_true rfl) d_Lm_parent_14 ⟨Nat.zero_le _, Nat.zero_le _⟩ (fun r4 f5 H locs hG hX => ?_)
    refine lv_if_ne (tgt := 22) hx hb d_Lm_parent_17 (by decide) (fun c6 => ?_) (fun c6 => ?_)
    · have hG := hG.1 c6
      refine lv_aload_n hx hb d_Lm_parent_22 rfl (lv_at hl 0 rfl) ?_
      refine gm_Lm_parents cx hX d_Lm_parent_23 ?_
      refine lv_iload_n hx hb d_Lm_parent_26 rfl (lv_at hl 1 rfl) ?_
      refine lv_iload_n hx hb d_Lm_parent_27 rfl (lv_at hl 2 rfl) ?_
      refine sm_0 cx hX hG.1 d_Lm_parent_28 (fun f7 ef7 H locs hX => ?_)
      replace hG := hG.2 f7 ef7
      refine lv_iconst (v := 0) hx hb d_Lm_parent_29 (by decide) ?_
      exact ll_iret cx hr hlk hX hG d_Lm_parent_30
    · have hG := hG.2 c6
      refine lv_iconst (v := (-1)) hx hb d_Lm_parent_20 (by decide) ?_
      exact ll_iret cx hr hlk hX hG d_Lm_parent_21
def G_Lm_file (f : ll_S) (a1 : Int32) (a2 : Int32) (a3 : Int32) (a4 : Int32) (K : Int32 → ll_S → Prop) : Prop := (G_Lm_place f a1 a2 (fun r1 f2 => ((r1 = 0 → K (-1) f2) ∧ (¬ r1 = 0 → (G_Lm_in f2 a3 0 728 (fun r4 f5 => ((r4 = 0 → K (-1) f5) ∧ (¬ r4 = 0 → (((a3 - a3 / 9 * 9) = (8 : Int32) → K (-1) f5) ∧ (¬ (a3 - a3 / 9 * 9) = (8 : Int32) → (G_Lm_in f5 a4 0 7 (fun r8 f9 => ((¬ r8 = 0 → (vp_in ((8 * a1) + a2) 40 ∧ ∀ f11, f11 = ll_w f9 1 (((8 * a1) + a2)).toNatClampNeg (vp_nar .boolean 1) → (vp_in ((8 * a1) + a2) 40 ∧ ∀ f12, f12 = ll_w f11 2 (((8 * a1) + a2)).toNatClampNeg (a3 - a3 / 9 * 9) → (vp_in ((8 * a1) + a2) 40 ∧ ∀ f13, f13 = ll_w f12 3 (((8 * a1) + a2)).toNatClampNeg ((a3 / 9) - (a3 / 9) / 9 * 9) → (vp_in ((8 * a1) + a2) 40 ∧ ∀ f14, f14 = ll_w f13 4 (((8 * a1) + a2)).toNatClampNeg (a3 / 81) → (vp_in ((8 * a1) + a2) 40 ∧ ∀ f15, f15 = ll_w f14 5 (((8 * a1) + a2)).toNatClampNeg a4 → K 0 f15)))))) ∧ (r8 = 0 → K (-1) f9))))))))))))))
set_option maxHeartbeats 4000000 in
set_option maxRecDepth 100000 in
theorem c_Lm_file (l : Launch) (D : va_G) (h : Nat → Nat) (cI cZ : ClassId) (f : ll_S) (a1 : Int32) (a2 : Int32) (a3 : Int32) (a4 : Int32) (K : Int32 → ll_S → Prop) (hG : G_Lm_file f a1 a2 a3 a4 K) : ll_Mi l y_Lm_file (Cond.code y_Lm_file b_Lm_file 6 (some .int) :: ll_xt) (ll_rk 2) D [(cI, .int), (cZ, .boolean)] (wd_M h cI cZ) [.ref (h 0), .int a1, .int a2, .int a3, .int a4] f K := by
  refine ll_starti (own := "LoaderLabModel") (by decide) rfl (Nat.le_of_ble_eq_true rfl) (fun p e s m below meth c ls cx hr hlk hA hX hl => ?_)
  have hl : lv_has ls 6 [(0, .ref (h 0)), (1, .int a1), (2, .int a2), (3, .int a3), (4, .int a4)] := hl
  obtain ⟨⟨hx, hb, -, -, -⟩, -⟩ := id cx
  unfold G_Lm_file at hG
  refine lv_iload_n hx hb d_Lm_file_0 rfl (lv_at hl 1 rfl) ?_
  refine lv_iload_n hx hb d_Lm_file_1 rfl (lv_at hl 2 rfl) ?_
  refine ll_callsi cx hA hX (c_Lm_place l D h cI cZ _ _ _ _ hG) (cw_Lm_81 cx.1.2.2.2.2 (ll_hR (by omega) (by decide))) rfl hl.1 rfl (Nat.le_of_ble_eq_true rfl) d_Lm_file_2 ⟨Nat.zero_le _, Nat.zero_le _⟩ (fun r1 f2 H locs hG hX => ?_)
  refine lv_if_eq (tgt := 39) hx hb d_Lm_file_5 (by decide) (fun c3 => ?_) (fun c3 => ?_)
  · have hG := hG.1 c3
    refine lv_iconst (v := (-1)) hx hb d_Lm_file_39 (by decide) ?_
    exact ll_iret cx hr hlk hX hG d_Lm_file_40
  · have hG := hG.2 c3
    refine lv_iload_n hx hb d_Lm_file_8 rfl (lv_at hl 3 rfl) ?_
    refine lv_iconst (v := 0) hx hb d_Lm_file_9 (by decide) ?_
    refine lv_sipush (v := 728) hx hb d_Lm_file_10 (by decide) ?_
    refine ll_callsi cx hA hX (c_Lm_in l D h cI cZ _ _ _ _ _ hG) (cw_Lm_77 cx.1.2.2.2.2 (ll_hR (by omega) (by decide))) rfl hl.1 rfl (Nat.le_of_ble_eq_true rfl) d_Lm_file_13 ⟨Nat.zero_le _, Nat.zero_le _⟩ (fun r4 f5 H locs hG hX => ?_)
    refine lv_if_eq (tgt := 39) hx hb d_Lm_file_16 (by decide) (fun c6 => ?_) (fun c6 => ?_)
    · have hG := hG.1 c6
      refine lv_iconst (v := (-1)) hx hb d_Lm_file_39 (by decide) ?_
      exact ll_iret cx hr hlk hX hG d_Lm_file_40
    · have hG := hG.2 c6
      refine lv_iload_n hx hb d_Lm_file_19 rfl (lv_at hl 3 rfl) ?_
      refine lv_bipush (v := 9) hx hb d_Lm_file_20 (by decide) ?_
      refine lv_irem hx hb d_Lm_file_22 (by decide) ?_
      refine lv_bipush (v := 8) hx hb d_Lm_file_23 (by decide) ?_
      refine lv_icmp_eq (tgt := 39) hx hb d_Lm_file_25 (by decide) (fun c7 => ?_) (fun c7 => ?_)
      · have hG := hG.1 c7
        refine lv_iconst (v := (-1)) hx hb d_Lm_file_39 (by decide) ?_
        exact ll_iret cx hr hlk hX hG d_Lm_file_40
      · have hG := hG.2 c7
        refine lv_iload hx hb d_Lm_file_28 (lv_at hl 4 rfl) ?_
        refine lv_iconst (v := 0) hx hb d_Lm_file_30 (by decide) ?_
        refine lv_bipush (v := 7) hx hb d_Lm_file_31 (by decide) ?_
        refine ll_callsi cx hA hX (c_Lm_in l D h cI cZ _ _ _ _ _ hG) (cw_Lm_77 cx.1.2.2.2.2 (ll_hR (by omega) (by decide))) rfl hl.1 rfl (Nat.le_of_ble_eq_true rfl) d_Lm_file_33 ⟨Nat.zero_le _, Nat.zero_le _⟩ (fun r8 f9 H locs hG hX => ?_)
        refine lv_if_ne (tgt := 41) hx hb d_Lm_file_36 (by decide) (fun c10 => ?_) (fun c10 => ?_)
        · have hG := hG.1 c10
          refine lv_bipush (v := 8) hx hb d_Lm_file_41 (by decide) ?_
          refine lv_iload_n hx hb d_Lm_file_43 rfl (lv_at hl 1 rfl) ?_
          refine lv_imul hx hb d_Lm_file_44 ?_
          refine lv_iload_n hx hb d_Lm_file_45 rfl (lv_at hl 2 rfl) ?_
          refine lv_iadd hx hb d_Lm_file_46 ?_
          refine lv_istore (lv' := [(5, .int ((8 * a1) + a2)), (0, .ref (h 0)), (1, .int a1), (2, .int a2), (3, .int a3), (4, .int a4)]) hx hb d_Lm_file_47 hl (by decide) rfl (fun ls hl => ?_)
          refine lv_aload_n hx hb d_Lm_file_49 rfl (lv_at hl 1 rfl) ?_
          refine gm_Lm_hasFile cx hX d_Lm_file_50 ?_
          refine lv_iload hx hb d_Lm_file_53 (lv_at hl 0 rfl) ?_
          refine lv_iconst (v := 1) hx hb d_Lm_file_55 (by decide) ?_
          refine sm_1 cx hX hG.1 d_Lm_file_56 (fun f11 ef11 H locs hX => ?_)
          replace hG := hG.2 f11 ef11
          refine lv_aload_n hx hb d_Lm_file_57 rfl (lv_at hl 1 rfl) ?_
          refine gm_Lm_says cx hX d_Lm_file_58 ?_
          refine lv_iload hx hb d_Lm_file_61 (lv_at hl 0 rfl) ?_
          refine lv_iload_n hx hb d_Lm_file_63 rfl (lv_at hl 4 rfl) ?_
          refine lv_bipush (v := 9) hx hb d_Lm_file_64 (by decide) ?_
          refine lv_irem hx hb d_Lm_file_66 (by decide) ?_
          refine sm_2 cx hX hG.1 d_Lm_file_67 (fun f12 ef12 H locs hX => ?_)
          replace hG := hG.2 f12 ef12
          refine lv_aload_n hx hb d_Lm_file_68 rfl (lv_at hl 1 rfl) ?_
          refine gm_Lm_fileSuper cx hX d_Lm_file_69 ?_
          refine lv_iload hx hb d_Lm_file_72 (lv_at hl 0 rfl) ?_
          refine lv_iload_n hx hb d_Lm_file_74 rfl (lv_at hl 4 rfl) ?_
          refine lv_bipush (v := 9) hx hb d_Lm_file_75 (by decide) ?_
          refine lv_idiv hx hb d_Lm_file_77 (by decide) ?_
          refine lv_bipush (v := 9) hx hb d_Lm_file_78 (by decide) ?_
          refine lv_irem hx hb d_Lm_file_80 (by decide) ?_
          refine sm_3 cx hX hG.1 d_Lm_file_81 (fun f13 ef13 H locs hX => ?_)
          replace hG := hG.2 f13 ef13
          refine lv_aload_n hx hb d_Lm_file_82 rfl (lv_at hl 1 rfl) ?_
          refine gm_Lm_fileInterface cx hX d_Lm_file_83 ?_
          refine lv_iload hx hb d_Lm_file_86 (lv_at hl 0 rfl) ?_
          refine lv_iload_n hx hb d_Lm_file_88 rfl (lv_at hl 4 rfl) ?_
          refine lv_bipush (v := 81) hx hb d_Lm_file_89 (by decide) ?_
          refine lv_idiv hx hb d_Lm_file_91 (by decide) ?_
          refine sm_4 cx hX hG.1 d_Lm_file_92 (fun f14 ef14 H locs hX => ?_)
          replace hG := hG.2 f14 ef14
          refine lv_aload_n hx hb d_Lm_file_93 rfl (lv_at hl 1 rfl) ?_
          refine gm_Lm_fileMarks cx hX d_Lm_file_94 ?_
          refine lv_iload hx hb d_Lm_file_97 (lv_at hl 0 rfl) ?_
          refine lv_iload hx hb d_Lm_file_99 (lv_at hl 5 rfl) ?_
          refine sm_5 cx hX hG.1 d_Lm_file_101 (fun f15 ef15 H locs hX => ?_)
          replace hG := hG.2 f15 ef15
          refine lv_iconst (v := 0) hx hb d_Lm_file_102 (by decide) ?_
          exact ll_iret cx hr hlk hX hG d_Lm_file_103
        · have hG := hG.2 c10
          refine lv_iconst (v := (-1)) hx hb d_Lm_file_39 (by decide) ?_
          exact ll_iret cx hr hlk hX hG d_Lm_file_40
def G_Lm_noFile (f : ll_S) (a1 : Int32) (a2 : Int32) (K : Int32 → ll_S → Prop) : Prop := (G_Lm_place f a1 a2 (fun r1 f2 => ((r1 = 0 → K (-1) f2) ∧ (¬ r1 = 0 → (vp_in ((8 * a1) + a2) 40 ∧ ((¬ (f2 1 (((8 * a1) + a2)).toNatClampNeg) = 0 → (vp_in ((8 * a1) + a2) 40 ∧ ∀ f5, f5 = ll_w f2 1 (((8 * a1) + a2)).toNatClampNeg (vp_nar .boolean 0) → K 0 f5)) ∧ ((f2 1 (((8 * a1) + a2)).toNatClampNeg) = 0 → K (-1) f2)))))))
set_option maxHeartbeats 4000000 in
set_option maxRecDepth 100000 in
theorem c_Lm_noFile (l : Launch) (D : va_G) (h : Nat → Nat) (cI cZ : ClassId) (f : ll_S) (a1 : Int32) (a2 : Int32) (K : Int32 → ll_S → Prop) (hG : G_Lm_noFile f a1 a2 K) : ll_Mi l y_Lm_noFile (Cond.code y_Lm_noFile b_Lm_noFile 3 (some .int) :: ll_xt) (ll_rk 2) D [(cI, .int), (cZ, .boolean)] (wd_M h cI cZ) [.ref (h 0), .int a1, .int a2] f K := by
  refine ll_starti (own := "LoaderLabModel") (by decide) rfl (Nat.le_of_ble_eq_true rfl) (fun p e s m below meth c ls cx hr hlk hA hX hl => ?_)
  have hl : lv_has ls 3 [(0, .ref (h 0)), (1, .int a1), (2, .int a2)] := hl
  obtain ⟨⟨hx, hb, -, -, -⟩, -⟩ := id cx
  unfold G_Lm_noFile at hG
  refine lv_iload_n hx hb d_Lm_noFile_0 rfl (lv_at hl 1 rfl) ?_
  refine lv_iload_n hx hb d_Lm_noFile_1 rfl (lv_at hl 2 rfl) ?_
  refine ll_callsi cx hA hX (c_Lm_place l D h cI cZ _ _ _ _ hG) (cw_Lm_81 cx.1.2.2.2.2 (ll_hR (by omega) (by decide))) rfl hl.1 rfl (Nat.le_of_ble_eq_true rfl) d_Lm_noFile_2 ⟨Nat.zero_le _, Nat.zero_le _⟩ (fun r1 f2 H locs hG hX => ?_)
  refine lv_if_eq (tgt := 22) hx hb d_Lm_noFile_5 (by decide) (fun c3 => ?_) (fun c3 => ?_)
  · have hG := hG.1 c3
    refine lv_iconst (v := (-1)) hx hb d_Lm_noFile_22 (by decide) ?_
    exact ll_iret cx hr hlk hX hG d_Lm_noFile_23
  · have hG := hG.2 c3
    refine lv_aload_n hx hb d_Lm_noFile_8 rfl (lv_at hl 0 rfl) ?_
    refine gm_Lm_hasFile cx hX d_Lm_noFile_9 ?_
    refine lv_bipush (v := 8) hx hb d_Lm_noFile_12 (by decide) ?_
    refine lv_iload_n hx hb d_Lm_noFile_14 rfl (lv_at hl 1 rfl) ?_
    refine lv_imul hx hb d_Lm_noFile_15 ?_
    refine lv_iload_n hx hb d_Lm_noFile_16 rfl (lv_at hl 2 rfl) ?_
    refine lv_iadd hx hb d_Lm_noFile_17 ?_
    refine lm_1 cx hX hG.1 d_Lm_noFile_18 ?_
    replace hG := hG.2
    refine lv_if_ne (tgt := 24) hx hb d_Lm_noFile_19 (by decide) (fun c4 => ?_) (fun c4 => ?_)
    · have hG := hG.1 c4
      refine lv_aload_n hx hb d_Lm_noFile_24 rfl (lv_at hl 0 rfl) ?_
      refine gm_Lm_hasFile cx hX d_Lm_noFile_25 ?_
      refine lv_bipush (v := 8) hx hb d_Lm_noFile_28 (by decide) ?_
      refine lv_iload_n hx hb d_Lm_noFile_30 rfl (lv_at hl 1 rfl) ?_
      refine lv_imul hx hb d_Lm_noFile_31 ?_
      refine lv_iload_n hx hb d_Lm_noFile_32 rfl (lv_at hl 2 rfl) ?_
      refine lv_iadd hx hb d_Lm_noFile_33 ?_
      refine lv_iconst (v := 0) hx hb d_Lm_noFile_34 (by decide) ?_
      refine sm_1 cx hX hG.1 d_Lm_noFile_35 (fun f5 ef5 H locs hX => ?_)
      replace hG := hG.2 f5 ef5
      refine lv_iconst (v := 0) hx hb d_Lm_noFile_36 (by decide) ?_
      exact ll_iret cx hr hlk hX hG d_Lm_noFile_37
    · have hG := hG.2 c4
      refine lv_iconst (v := (-1)) hx hb d_Lm_noFile_22 (by decide) ?_
      exact ll_iret cx hr hlk hX hG d_Lm_noFile_23
def G_Lm_script (f : ll_S) (a1 : Int32) (a2 : Int32) (a3 : Int32) (a4 : Int32) (K : Int32 → ll_S → Prop) : Prop := (G_Lm_place f a1 a2 (fun r1 f2 => ((r1 = 0 → K (-1) f2) ∧ (¬ r1 = 0 → (G_Lm_in f2 a3 0 6 (fun r4 f5 => ((r4 = 0 → K (-1) f5) ∧ (¬ r4 = 0 → ((¬ a3 = (2 : Int32) → ((a3 = (3 : Int32) → (G_Lm_in f5 a4 0 7 (fun r9 f10 => ((¬ r9 = 0 → (vp_in ((8 * a1) + a2) 40 ∧ ∀ f12, f12 = ll_w f10 6 (((8 * a1) + a2)).toNatClampNeg a3 → (vp_in ((8 * a1) + a2) 40 ∧ ∀ f13, f13 = ll_w f12 7 (((8 * a1) + a2)).toNatClampNeg a4 → K 0 f13))) ∧ (r9 = 0 → K (-1) f10))))) ∧ (¬ a3 = (3 : Int32) → ((¬ a3 = (6 : Int32) → (vp_in ((8 * a1) + a2) 40 ∧ ∀ f15, f15 = ll_w f5 6 (((8 * a1) + a2)).toNatClampNeg a3 → (vp_in ((8 * a1) + a2) 40 ∧ ∀ f16, f16 = ll_w f15 7 (((8 * a1) + a2)).toNatClampNeg a4 → K 0 f16))) ∧ (a3 = (6 : Int32) → (G_Lm_in f5 a4 0 7 (fun r17 f18 => ((¬ r17 = 0 → (vp_in ((8 * a1) + a2) 40 ∧ ∀ f20, f20 = ll_w f18 6 (((8 * a1) + a2)).toNatClampNeg a3 → (vp_in ((8 * a1) + a2) 40 ∧ ∀ f21, f21 = ll_w f20 7 (((8 * a1) + a2)).toNatClampNeg a4 → K 0 f21))) ∧ (r17 = 0 → K (-1) f18))))))))) ∧ (a3 = (2 : Int32) → (G_Lm_in f5 a4 0 4 (fun r22 f23 => ((r22 = 0 → K (-1) f23) ∧ (¬ r22 = 0 → ((a3 = (3 : Int32) → (G_Lm_in f23 a4 0 7 (fun r26 f27 => ((¬ r26 = 0 → (vp_in ((8 * a1) + a2) 40 ∧ ∀ f29, f29 = ll_w f27 6 (((8 * a1) + a2)).toNatClampNeg a3 → (vp_in ((8 * a1) + a2) 40 ∧ ∀ f30, f30 = ll_w f29 7 (((8 * a1) + a2)).toNatClampNeg a4 → K 0 f30))) ∧ (r26 = 0 → K (-1) f27))))) ∧ (¬ a3 = (3 : Int32) → ((¬ a3 = (6 : Int32) → (vp_in ((8 * a1) + a2) 40 ∧ ∀ f32, f32 = ll_w f23 6 (((8 * a1) + a2)).toNatClampNeg a3 → (vp_in ((8 * a1) + a2) 40 ∧ ∀ f33, f33 = ll_w f32 7 (((8 * a1) + a2)).toNatClampNeg a4 → K 0 f33))) ∧ (a3 = (6 : Int32) → (G_Lm_in f23 a4 0 7 (fun r34 f35 => ((¬ r34 = 0 → (vp_in ((8 * a1) + a2) 40 ∧ ∀ f37, f37 = ll_w f35 6 (((8 * a1) + a2)).toNatClampNeg a3 → (vp_in ((8 * a1) + a2) 40 ∧ ∀ f38, f38 = ll_w f37 7 (((8 * a1) + a2)).toNatClampNeg a4 → K 0 f38))) ∧ (r34 = 0 → K (-1) f35))))))))))))))))))))))
set_option maxHeartbeats 4000000 in
set_option maxRecDepth 100000 in
theorem c_Lm_script (l : Launch) (D : va_G) (h : Nat → Nat) (cI cZ : ClassId) (f : ll_S) (a1 : Int32) (a2 : Int32) (a3 : Int32) (a4 : Int32) (K : Int32 → ll_S → Prop) (hG : G_Lm_script f a1 a2 a3 a4 K) : ll_Mi l y_Lm_script (Cond.code y_Lm_script b_Lm_script 5 (some .int) :: ll_xt) (ll_rk 2) D [(cI, .int), (cZ, .boolean)] (wd_M h cI cZ) [.ref (h 0), .int a1, .int a2, .int a3, .int a4] f K := by
  refine ll_starti (own := "LoaderLabModel") (by decide) rfl (Nat.le_of_ble_eq_true rfl) (fun p e s m below meth c ls cx hr hlk hA hX hl => ?_)
  have hl : lv_has ls 5 [(0, .ref (h 0)), (1, .int a1), (2, .int a2), (3, .int a3), (4, .int a4)] := hl
  obtain ⟨⟨hx, hb, -, -, -⟩, -⟩ := id cx
  unfold G_Lm_script at hG
  refine lv_iload_n hx hb d_Lm_script_0 rfl (lv_at hl 1 rfl) ?_
  refine lv_iload_n hx hb d_Lm_script_1 rfl (lv_at hl 2 rfl) ?_
  refine ll_callsi cx hA hX (c_Lm_place l D h cI cZ _ _ _ _ hG) (cw_Lm_81 cx.1.2.2.2.2 (ll_hR (by omega) (by decide))) rfl hl.1 rfl (Nat.le_of_ble_eq_true rfl) d_Lm_script_2 ⟨Nat.zero_le _, Nat.zero_le _⟩ (fun r1 f2 H locs hG hX => ?_)
  refine lv_if_eq (tgt := 55) hx hb d_Lm_script_5 (by decide) (fun c3 => ?_) (fun c3 => ?_)
  · have hG := hG.1 c3
    refine lv_iconst (v := (-1)) hx hb d_Lm_script_55 (by decide) ?_
    exact ll_iret cx hr hlk hX hG d_Lm_script_56
  · have hG := hG.2 c3
    refine lv_iload_n hx hb d_Lm_script_8 rfl (lv_at hl 3 rfl) ?_
    refine lv_iconst (v := 0) hx hb d_Lm_script_9 (by decide) ?_
    refine lv_bipush (v := 6) hx hb d_Lm_script_10 (by decide) ?_
    refine ll_callsi cx hA hX (c_Lm_in l D h cI cZ _ _ _ _ _ hG) (cw_Lm_77 cx.1.2.2.2.2 (ll_hR (by omega) (by decide))) rfl hl.1 rfl (Nat.le_of_ble_eq_true rfl) d_Lm_script_12 ⟨Nat.zero_le _, Nat.zero_le _⟩ (fun r4 f5 H locs hG hX => ?_)
    refine lv_if_eq (tgt := 55) hx hb d_Lm_script_15 (by decide) (fun c6 => ?_) (fun c6 => ?_)
    · have hG := hG.1 c6
      refine lv_iconst (v := (-1)) hx hb d_Lm_script_55 (by decide) ?_
      exact ll_iret cx hr hlk hX hG d_Lm_script_56
    · have hG := hG.2 c6
      refine lv_iload_n hx hb d_Lm_script_18 rfl (lv_at hl 3 rfl) ?_
      refine lv_iconst (v := 2) hx hb d_Lm_script_19 (by decide) ?_
      refine lv_icmp_ne (tgt := 33) hx hb d_Lm_script_20 (by decide) (fun c7 => ?_) (fun c7 => ?_)
      · have hG := hG.1 c7
        refine lv_iload_n hx hb d_Lm_script_33 rfl (lv_at hl 3 rfl) ?_
        refine lv_iconst (v := 3) hx hb d_Lm_script_34 (by decide) ?_
        refine lv_icmp_eq (tgt := 44) hx hb d_Lm_script_35 (by decide) (fun c8 => ?_) (fun c8 => ?_)
        · have hG := hG.1 c8
          refine lv_iload hx hb d_Lm_script_44 (lv_at hl 4 rfl) ?_
          refine lv_iconst (v := 0) hx hb d_Lm_script_46 (by decide) ?_
          refine lv_bipush (v := 7) hx hb d_Lm_script_47 (by decide) ?_
          refine ll_callsi cx hA hX (c_Lm_in l D h cI cZ _ _ _ _ _ hG) (cw_Lm_77 cx.1.2.2.2.2 (ll_hR (by omega) (by decide))) rfl hl.1 rfl (Nat.le_of_ble_eq_true rfl) d_Lm_script_49 ⟨Nat.zero_le _, Nat.zero_le _⟩ (fun r9 f10 H locs hG hX => ?_)
          refine lv_if_ne (tgt := 57) hx hb d_Lm_script_52 (by decide) (fun c11 => ?_) (fun c11 => ?_)
          · have hG := hG.1 c11
            refine lv_aload_n hx hb d_Lm_script_57 rfl (lv_at hl 0 rfl) ?_
            refine gm_Lm_way cx hX d_Lm_script_58 ?_
            refine lv_bipush (v := 8) hx hb d_Lm_script_61 (by decide) ?_
            refine lv_iload_n hx hb d_Lm_script_63 rfl (lv_at hl 1 rfl) ?_
            refine lv_imul hx hb d_Lm_script_64 ?_
            refine lv_iload_n hx hb d_Lm_script_65 rfl (lv_at hl 2 rfl) ?_
            refine lv_iadd hx hb d_Lm_script_66 ?_
            refine lv_iload_n hx hb d_Lm_script_67 rfl (lv_at hl 3 rfl) ?_
            refine sm_6 cx hX hG.1 d_Lm_script_68 (fun f12 ef12 H locs hX => ?_)
            replace hG := hG.2 f12 ef12
            refine lv_aload_n hx hb d_Lm_script_69 rfl (lv_at hl 0 rfl) ?_
            refine gm_Lm_number cx hX d_Lm_script_70 ?_
            refine lv_bipush (v := 8) hx hb d_Lm_script_73 (by decide) ?_
            refine lv_iload_n hx hb d_Lm_script_75 rfl (lv_at hl 1 rfl) ?_
            refine lv_imul hx hb d_Lm_script_76 ?_
            refine lv_iload_n hx hb d_Lm_script_77 rfl (lv_at hl 2 rfl) ?_
            refine lv_iadd hx hb d_Lm_script_78 ?_
            refine lv_iload hx hb d_Lm_script_79 (lv_at hl 4 rfl) ?_
            refine sm_7 cx hX hG.1 d_Lm_script_81 (fun f13 ef13 H locs hX => ?_)
            replace hG := hG.2 f13 ef13
            refine lv_iconst (v := 0) hx hb d_Lm_script_82 (by decide) ?_
            exact ll_iret cx hr hlk hX hG d_Lm_script_83
          · have hG := hG.2 c11
            refine lv_iconst (v := (-1)) hx hb d_Lm_script_55 (by decide) ?_
            exact ll_iret cx hr hlk hX hG d_Lm_script_56
        · have hG := hG.2 c8
          refine lv_iload_n hx hb d_Lm_script_38 rfl (lv_at hl 3 rfl) ?_
          refine lv_bipush (v := 6) hx hb d_Lm_script_39 (by decide) ?_
          refine lv_icmp_ne (tgt := 57) hx hb d_Lm_script_41 (by decide) (fun c14 => ?_) (fun c14 => ?_)
          · have hG := hG.1 c14
            refine lv_aload_n hx hb d_Lm_script_57 rfl (lv_at hl 0 rfl) ?_
            refine gm_Lm_way cx hX d_Lm_script_58 ?_
            refine lv_bipush (v := 8) hx hb d_Lm_script_61 (by decide) ?_
            refine lv_iload_n hx hb d_Lm_script_63 rfl (lv_at hl 1 rfl) ?_
            refine lv_imul hx hb d_Lm_script_64 ?_
            refine lv_iload_n hx hb d_Lm_script_65 rfl (lv_at hl 2 rfl) ?_
            refine lv_iadd hx hb d_Lm_script_66 ?_
            refine lv_iload_n hx hb d_Lm_script_67 rfl (lv_at hl 3 rfl) ?_
            refine sm_6 cx hX hG.1 d_Lm_script_68 (fun f15 ef15 H locs hX => ?_)
            replace hG := hG.2 f15 ef15
            refine lv_aload_n hx hb d_Lm_script_69 rfl (lv_at hl 0 rfl) ?_
            refine gm_Lm_number cx hX d_Lm_script_70 ?_
            refine lv_bipush (v := 8) hx hb d_Lm_script_73 (by decide) ?_
            refine lv_iload_n hx hb d_Lm_script_75 rfl (lv_at hl 1 rfl) ?_
            refine lv_imul hx hb d_Lm_script_76 ?_
            refine lv_iload_n hx hb d_Lm_script_77 rfl (lv_at hl 2 rfl) ?_
            refine lv_iadd hx hb d_Lm_script_78 ?_
            refine lv_iload hx hb d_Lm_script_79 (lv_at hl 4 rfl) ?_
            refine sm_7 cx hX hG.1 d_Lm_script_81 (fun f16 ef16 H locs hX => ?_)
            replace hG := hG.2 f16 ef16
            refine lv_iconst (v := 0) hx hb d_Lm_script_82 (by decide) ?_
            exact ll_iret cx hr hlk hX hG d_Lm_script_83
          · have hG := hG.2 c14
            refine lv_iload hx hb d_Lm_script_44 (lv_at hl 4 rfl) ?_
            refine lv_iconst (v := 0) hx hb d_Lm_script_46 (by decide) ?_
            refine lv_bipush (v := 7) hx hb d_Lm_script_47 (by decide) ?_
            refine ll_callsi cx hA hX (c_Lm_in l D h cI cZ _ _ _ _ _ hG) (cw_Lm_77 cx.1.2.2.2.2 (ll_hR (by omega) (by decide))) rfl hl.1 rfl (Nat.le_of_ble_eq_true rfl) d_Lm_script_49 ⟨Nat.zero_le _, Nat.zero_le _⟩ (fun r17 f18 H locs hG hX => ?_)
            refine lv_if_ne (tgt := 57) hx hb d_Lm_script_52 (by decide) (fun c19 => ?_) (fun c19 => ?_)
            · have hG := hG.1 c19
              refine lv_aload_n hx hb d_Lm_script_57 rfl (lv_at hl 0 rfl) ?_
              refine gm_Lm_way cx hX d_Lm_script_58 ?_
              refine lv_bipush (v := 8) hx hb d_Lm_script_61 (by decide) ?_
              refine lv_iload_n hx hb d_Lm_script_63 rfl (lv_at hl 1 rfl) ?_
              refine lv_imul hx hb d_Lm_script_64 ?_
              refine lv_iload_n hx hb d_Lm_script_65 rfl (lv_at hl 2 rfl) ?_
              refine lv_iadd hx hb d_Lm_script_66 ?_
              refine lv_iload_n hx hb d_Lm_script_67 rfl (lv_at hl 3 rfl) ?_
              refine sm_6 cx hX hG.1 d_Lm_script_68 (fun f20 ef20 H locs hX => ?_)
              replace hG := hG.2 f20 ef20
              refine lv_aload_n hx hb d_Lm_script_69 rfl (lv_at hl 0 rfl) ?_
              refine gm_Lm_number cx hX d_Lm_script_70 ?_
              refine lv_bipush (v := 8) hx hb d_Lm_script_73 (by decide) ?_
              refine lv_iload_n hx hb d_Lm_script_75 rfl (lv_at hl 1 rfl) ?_
              refine lv_imul hx hb d_Lm_script_76 ?_
              refine lv_iload_n hx hb d_Lm_script_77 rfl (lv_at hl 2 rfl) ?_
              refine lv_iadd hx hb d_Lm_script_78 ?_
              refine lv_iload hx hb d_Lm_script_79 (lv_at hl 4 rfl) ?_
              refine sm_7 cx hX hG.1 d_Lm_script_81 (fun f21 ef21 H locs hX => ?_)
              replace hG := hG.2 f21 ef21
              refine lv_iconst (v := 0) hx hb d_Lm_script_82 (by decide) ?_
              exact ll_iret cx hr hlk hX hG d_Lm_script_83
            · have hG := hG.2 c19
              refine lv_iconst (v := (-1)) hx hb d_Lm_script_55 (by decide) ?_
              exact ll_iret cx hr hlk hX hG d_Lm_script_56
      · have hG := hG.2 c7
        refine lv_iload hx hb d_Lm_script_23 (lv_at hl 4 rfl) ?_
        refine lv_iconst (v := 0) hx hb d_Lm_script_25 (by decide) ?_
        refine lv_iconst (v := 4) hx hb d_Lm_script_26 (by decide) ?_
        refine ll_callsi cx hA hX (c_Lm_in l D h cI cZ _ _ _ _ _ hG) (cw_Lm_77 cx.1.2.2.2.2 (ll_hR (by omega) (by decide))) rfl hl.1 rfl (Nat.le_of_ble_eq_true rfl) d_Lm_script_27 ⟨Nat.zero_le _, Nat.zero_le _⟩ (fun r22 f23 H locs hG hX => ?_)
        refine lv_if_eq (tgt := 55) hx hb d_Lm_script_30 (by decide) (fun c24 => ?_) (fun c24 => ?_)
        · have hG := hG.1 c24
          refine lv_iconst (v := (-1)) hx hb d_Lm_script_55 (by decide) ?_
          exact ll_iret cx hr hlk hX hG d_Lm_script_56
        · have hG := hG.2 c24
          refine lv_iload_n hx hb d_Lm_script_33 rfl (lv_at hl 3 rfl) ?_
          refine lv_iconst (v := 3) hx hb d_Lm_script_34 (by decide) ?_
          refine lv_icmp_eq (tgt := 44) hx hb d_Lm_script_35 (by decide) (fun c25 => ?_) (fun c25 => ?_)
          · have hG := hG.1 c25
            refine lv_iload hx hb d_Lm_script_44 (lv_at hl 4 rfl) ?_
            refine lv_iconst (v := 0) hx hb d_Lm_script_46 (by decide) ?_
            refine lv_bipush (v := 7) hx hb d_Lm_script_47 (by decide) ?_
            refine ll_callsi cx hA hX (c_Lm_in l D h cI cZ _ _ _ _ _ hG) (cw_Lm_77 cx.1.2.2.2.2 (ll_hR (by omega) (by decide))) rfl hl.1 rfl (Nat.le_of_ble_eq_true rfl) d_Lm_script_49 ⟨Nat.zero_le _, Nat.zero_le _⟩ (fun r26 f27 H locs hG hX => ?_)
            refine lv_if_ne (tgt := 57) hx hb d_Lm_script_52 (by decide) (fun c28 => ?_) (fun c28 => ?_)
            · have hG := hG.1 c28
              refine lv_aload_n hx hb d_Lm_script_57 rfl (lv_at hl 0 rfl) ?_
              refine gm_Lm_way cx hX d_Lm_script_58 ?_
              refine lv_bipush (v := 8) hx hb d_Lm_script_61 (by decide) ?_
              refine lv_iload_n hx hb d_Lm_script_63 rfl (lv_at hl 1 rfl) ?_
              refine lv_imul hx hb d_Lm_script_64 ?_
              refine lv_iload_n hx hb d_Lm_script_65 rfl (lv_at hl 2 rfl) ?_
              refine lv_iadd hx hb d_Lm_script_66 ?_
              refine lv_iload_n hx hb d_Lm_script_67 rfl (lv_at hl 3 rfl) ?_
              refine sm_6 cx hX hG.1 d_Lm_script_68 (fun f29 ef29 H locs hX => ?_)
              replace hG := hG.2 f29 ef29
              refine lv_aload_n hx hb d_Lm_script_69 rfl (lv_at hl 0 rfl) ?_
              refine gm_Lm_number cx hX d_Lm_script_70 ?_
              refine lv_bipush (v := 8) hx hb d_Lm_script_73 (by decide) ?_
              refine lv_iload_n hx hb d_Lm_script_75 rfl (lv_at hl 1 rfl) ?_
              refine lv_imul hx hb d_Lm_script_76 ?_
              refine lv_iload_n hx hb d_Lm_script_77 rfl (lv_at hl 2 rfl) ?_
              refine lv_iadd hx hb d_Lm_script_78 ?_
              refine lv_iload hx hb d_Lm_script_79 (lv_at hl 4 rfl) ?_
              refine sm_7 cx hX hG.1 d_Lm_script_81 (fun f30 ef30 H locs hX => ?_)
              replace hG := hG.2 f30 ef30
              refine lv_iconst (v := 0) hx hb d_Lm_script_82 (by decide) ?_
              exact ll_iret cx hr hlk hX hG d_Lm_script_83
            · have hG := hG.2 c28
              refine lv_iconst (v := (-1)) hx hb d_Lm_script_55 (by decide) ?_
              exact ll_iret cx hr hlk hX hG d_Lm_script_56
          · have hG := hG.2 c25
            refine lv_iload_n hx hb d_Lm_script_38 rfl (lv_at hl 3 rfl) ?_
            refine lv_bipush (v := 6) hx hb d_Lm_script_39 (by decide) ?_
            refine lv_icmp_ne (tgt := 57) hx hb d_Lm_script_41 (by decide) (fun c31 => ?_) (fun c31 => ?_)
            · have hG := hG.1 c31
              refine lv_aload_n hx hb d_Lm_script_57 rfl (lv_at hl 0 rfl) ?_
              refine gm_Lm_way cx hX d_Lm_script_58 ?_
              refine lv_bipush (v := 8) hx hb d_Lm_script_61 (by decide) ?_
              refine lv_iload_n hx hb d_Lm_script_63 rfl (lv_at hl 1 rfl) ?_
              refine lv_imul hx hb d_Lm_script_64 ?_
              refine lv_iload_n hx hb d_Lm_script_65 rfl (lv_at hl 2 rfl) ?_
              refine lv_iadd hx hb d_Lm_script_66 ?_
              refine lv_iload_n hx hb d_Lm_script_67 rfl (lv_at hl 3 rfl) ?_
              refine sm_6 cx hX hG.1 d_Lm_script_68 (fun f32 ef32 H locs hX => ?_)
              replace hG := hG.2 f32 ef32
              refine lv_aload_n hx hb d_Lm_script_69 rfl (lv_at hl 0 rfl) ?_
              refine gm_Lm_number cx hX d_Lm_script_70 ?_
              refine lv_bipush (v := 8) hx hb d_Lm_script_73 (by decide) ?_
              refine lv_iload_n hx hb d_Lm_script_75 rfl (lv_at hl 1 rfl) ?_
              refine lv_imul hx hb d_Lm_script_76 ?_
              refine lv_iload_n hx hb d_Lm_script_77 rfl (lv_at hl 2 rfl) ?_
              refine lv_iadd hx hb d_Lm_script_78 ?_
              refine lv_iload hx hb d_Lm_script_79 (lv_at hl 4 rfl) ?_
              refine sm_7 cx hX hG.1 d_Lm_script_81 (fun f33 ef33 H locs hX => ?_)
              replace hG := hG.2 f33 ef33
              refine lv_iconst (v := 0) hx hb d_Lm_script_82 (by decide) ?_
              exact ll_iret cx hr hlk hX hG d_Lm_script_83
            · have hG := hG.2 c31
              refine lv_iload hx hb d_Lm_script_44 (lv_at hl 4 rfl) ?_
              refine lv_iconst (v := 0) hx hb d_Lm_script_46 (by decide) ?_
              refine lv_bipush (v := 7) hx hb d_Lm_script_47 (by decide) ?_
              refine ll_callsi cx hA hX (c_Lm_in l D h cI cZ _ _ _ _ _ hG) (cw_Lm_77 cx.1.2.2.2.2 (ll_hR (by omega) (by decide))) rfl hl.1 rfl (Nat.le_of_ble_eq_true rfl) d_Lm_script_49 ⟨Nat.zero_le _, Nat.zero_le _⟩ (fun r34 f35 H locs hG hX => ?_)
              refine lv_if_ne (tgt := 57) hx hb d_Lm_script_52 (by decide) (fun c36 => ?_) (fun c36 => ?_)
              · have hG := hG.1 c36
                refine lv_aload_n hx hb d_Lm_script_57 rfl (lv_at hl 0 rfl) ?_
                refine gm_Lm_way cx hX d_Lm_script_58 ?_
                refine lv_bipush (v := 8) hx hb d_Lm_script_61 (by decide) ?_
                refine lv_iload_n hx hb d_Lm_script_63 rfl (lv_at hl 1 rfl) ?_
                refine lv_imul hx hb d_Lm_script_64 ?_
                refine lv_iload_n hx hb d_Lm_script_65 rfl (lv_at hl 2 rfl) ?_
                refine lv_iadd hx hb d_Lm_script_66 ?_
                refine lv_iload_n hx hb d_Lm_script_67 rfl (lv_at hl 3 rfl) ?_
                refine sm_6 cx hX hG.1 d_Lm_script_68 (fun f37 ef37 H locs hX => ?_)
                replace hG := hG.2 f37 ef37
                refine lv_aload_n hx hb d_Lm_script_69 rfl (lv_at hl 0 rfl) ?_
                refine gm_Lm_number cx hX d_Lm_script_70 ?_
                refine lv_bipush (v := 8) hx hb d_Lm_script_73 (by decide) ?_
                refine lv_iload_n hx hb d_Lm_script_75 rfl (lv_at hl 1 rfl) ?_
                refine lv_imul hx hb d_Lm_script_76 ?_
                refine lv_iload_n hx hb d_Lm_script_77 rfl (lv_at hl 2 rfl) ?_
                refine lv_iadd hx hb d_Lm_script_78 ?_
                refine lv_iload hx hb d_Lm_script_79 (lv_at hl 4 rfl) ?_
                refine sm_7 cx hX hG.1 d_Lm_script_81 (fun f38 ef38 H locs hX => ?_)
                replace hG := hG.2 f38 ef38
                refine lv_iconst (v := 0) hx hb d_Lm_script_82 (by decide) ?_
                exact ll_iret cx hr hlk hX hG d_Lm_script_83
              · have hG := hG.2 c36
                refine lv_iconst (v := (-1)) hx hb d_Lm_script_55 (by decide) ?_
                exact ll_iret cx hr hlk hX hG d_Lm_script_56
def G_Lm_come (f : ll_S) (a1 : Int32) (a2 : Int32) (K : ll_S → Prop) : Prop := (∀ f1, f1 = ll_w f 24 0 a1 → (∀ f2, f2 = ll_w f1 25 0 a2 → K f2))
set_option maxHeartbeats 4000000 in
set_option maxRecDepth 100000 in
theorem c_Lm_come (l : Launch) (D : va_G) (h : Nat → Nat) (cI cZ : ClassId) (f : ll_S) (a1 : Int32) (a2 : Int32) (K : ll_S → Prop) (hG : G_Lm_come f a1 a2 K) : ll_Mv l y_Lm_come (Cond.code y_Lm_come b_Lm_come 3 none :: ll_xt) (ll_rk 0) D [(cI, .int), (cZ, .boolean)] (wd_M h cI cZ) [.ref (h 0), .int a1, .int a2] f K := by
  refine ll_startv (own := "LoaderLabModel") (by decide) rfl (Nat.le_of_ble_eq_true rfl) (fun p e s m below meth c ls cx hr hlk hA hX hl => ?_)
  have hl : lv_has ls 3 [(0, .ref (h 0)), (1, .int a1), (2, .int a2)] := hl
  obtain ⟨⟨hx, hb, -, -, -⟩, -⟩ := id cx
  unfold G_Lm_come at hG
  refine lv_aload_n hx hb d_Lm_come_0 rfl (lv_at hl 0 rfl) ?_
  refine lv_iload_n hx hb d_Lm_come_1 rfl (lv_at hl 1 rfl) ?_
  refine pm_Lm_got cx hX d_Lm_come_2 (fun f1 ef1 H locs hX => ?_)
  replace hG := hG f1 ef1
  refine lv_aload_n hx hb d_Lm_come_5 rfl (lv_at hl 0 rfl) ?_
  refine lv_iload_n hx hb d_Lm_come_6 rfl (lv_at hl 2 rfl) ?_
  refine pm_Lm_gotCause cx hX d_Lm_come_7 (fun f2 ef2 H locs hX => ?_)
  replace hG := hG f2 ef2
  exact ll_vret cx hr hlk hX hG d_Lm_come_10
def G_Lm_begin (f : ll_S) (a1 : Int32) (a2 : Int32) (K : ll_S → Prop) : Prop := (∀ f1, f1 = ll_w f 26 0 ((f 26 0) + 1) → (vp_in ((8 * a1) + a2) 40 ∧ (((f1 8 (((8 * a1) + a2)).toNatClampNeg) ≤ 0 → (vp_in ((8 * a1) + a2) 40 ∧ (((f1 9 (((8 * a1) + a2)).toNatClampNeg) = 0 → (vp_in ((8 * a1) + a2) 40 ∧ ∀ f4, f4 = ll_w f1 9 (((8 * a1) + a2)).toNatClampNeg (vp_nar .boolean 1) → (vp_in (f4 23 0) 41 ∧ ∀ f5, f5 = ll_w f4 19 ((f4 23 0)).toNatClampNeg ((8 * a1) + a2) → (vp_in (f5 23 0) 41 ∧ ∀ f6, f6 = ll_w f5 20 ((f5 23 0)).toNatClampNeg 0 → (vp_in (f6 23 0) 41 ∧ ∀ f7, f7 = ll_w f6 21 ((f6 23 0)).toNatClampNeg 0 → (∀ f8, f8 = ll_w f7 23 0 ((f7 23 0) + 1) → (∀ f9, f9 = ll_w f8 24 0 0 → K f9))))))) ∧ (¬ (f1 9 (((8 * a1) + a2)).toNatClampNeg) = 0 → (G_Lm_come f1 (-10) 0 (fun f11 => K f11)))))) ∧ (¬ (f1 8 (((8 * a1) + a2)).toNatClampNeg) ≤ 0 → (vp_in ((8 * a1) + a2) 40 ∧ (G_Lm_come f1 (f1 8 (((8 * a1) + a2)).toNatClampNeg) 0 (fun f13 => K f13)))))))
set_option maxHeartbeats 4000000 in
set_option maxRecDepth 100000 in
theorem c_Lm_begin (l : Launch) (D : va_G) (h : Nat → Nat) (cI cZ : ClassId) (f : ll_S) (a1 : Int32) (a2 : Int32) (K : ll_S → Prop) (hG : G_Lm_begin f a1 a2 K) : ll_Mv l y_Lm_begin (Cond.code y_Lm_begin b_Lm_begin 4 none :: ll_xt) (ll_rk 1) D [(cI, .int), (cZ, .boolean)] (wd_M h cI cZ) [.ref (h 0), .int a1, .int a2] f K := by
  refine ll_startv (own := "LoaderLabModel") (by decide) rfl (Nat.le_of_ble_eq_true rfl) (fun p e s m below meth c ls cx hr hlk hA hX hl => ?_)
  have hl : lv_has ls 4 [(0, .ref (h 0)), (1, .int a1), (2, .int a2)] := hl
  obtain ⟨⟨hx, hb, -, -, -⟩, -⟩ := id cx
  unfold G_Lm_begin at hG
  refine lv_bipush (v := 8) hx hb d_Lm_begin_0 (by decide) ?_
  refine lv_iload_n hx hb d_Lm_begin_2 rfl (lv_at hl 1 rfl) ?_
  refine lv_imul hx hb d_Lm_begin_3 ?_
  refine lv_iload_n hx hb d_Lm_begin_4 rfl (lv_at hl 2 rfl) ?_
  refine lv_iadd hx hb d_Lm_begin_5 ?_
  refine lv_istore_n (lv' := [(3, .int ((8 * a1) + a2)), (0, .ref (h 0)), (1, .int a1), (2, .int a2)]) hx hb d_Lm_begin_6 rfl hl (by decide) rfl (fun ls hl => ?_)
  refine lv_aload_n hx hb d_Lm_begin_7 rfl (lv_at hl 1 rfl) ?_
  refine lv_dup hx hb d_Lm_begin_8 rfl ?_
  refine gm_Lm_begun cx hX d_Lm_begin_9 ?_
  refine lv_iconst (v := 1) hx hb d_Lm_begin_12 (by decide) ?_
  refine lv_iadd hx hb d_Lm_begin_13 ?_
  refine pm_Lm_begun cx hX d_Lm_begin_14 (fun f1 ef1 H locs hX => ?_)
  replace hG := hG f1 ef1
  refine lv_aload_n hx hb d_Lm_begin_17 rfl (lv_at hl 1 rfl) ?_
  refine gm_Lm_noted cx hX d_Lm_begin_18 ?_
  refine lv_iload_n hx hb d_Lm_begin_21 rfl (lv_at hl 0 rfl) ?_
  refine lm_8 cx hX hG.1 d_Lm_begin_22 ?_
  replace hG := hG.2
  refine lv_if_le (tgt := 40) hx hb d_Lm_begin_23 (by decide) (fun c2 => ?_) (fun c2 => ?_)
  · have hG := hG.1 c2
    refine lv_aload_n hx hb d_Lm_begin_40 rfl (lv_at hl 1 rfl) ?_
    refine gm_Lm_busy cx hX d_Lm_begin_41 ?_
    refine lv_iload_n hx hb d_Lm_begin_44 rfl (lv_at hl 0 rfl) ?_
    refine lm_9 cx hX hG.1 d_Lm_begin_45 ?_
    replace hG := hG.2
    refine lv_if_eq (tgt := 59) hx hb d_Lm_begin_46 (by decide) (fun c3 => ?_) (fun c3 => ?_)
    · have hG := hG.1 c3
      refine lv_aload_n hx hb d_Lm_begin_59 rfl (lv_at hl 1 rfl) ?_
      refine gm_Lm_busy cx hX d_Lm_begin_60 ?_
      refine lv_iload_n hx hb d_Lm_begin_63 rfl (lv_at hl 0 rfl) ?_
      refine lv_iconst (v := 1) hx hb d_Lm_begin_64 (by decide) ?_
      refine sm_9 cx hX hG.1 d_Lm_begin_65 (fun f4 ef4 H locs hX => ?_)
      replace hG := hG.2 f4 ef4
      refine lv_aload_n hx hb d_Lm_begin_66 rfl (lv_at hl 1 rfl) ?_
      refine gm_Lm_at cx hX d_Lm_begin_67 ?_
      refine lv_aload_n hx hb d_Lm_begin_70 rfl (lv_at hl 1 rfl) ?_
      refine gm_Lm_depth cx hX d_Lm_begin_71 ?_
      refine lv_iload_n hx hb d_Lm_begin_74 rfl (lv_at hl 0 rfl) ?_
      refine sm_19 cx hX hG.1 d_Lm_begin_75 (fun f5 ef5 H locs hX => ?_)
      replace hG := hG.2 f5 ef5
      refine lv_aload_n hx hb d_Lm_begin_76 rfl (lv_at hl 1 rfl) ?_
      refine gm_Lm_step cx hX d_Lm_begin_77 ?_
      refine lv_aload_n hx hb d_Lm_begin_80 rfl (lv_at hl 1 rfl) ?_
      refine gm_Lm_depth cx hX d_Lm_begin_81 ?_
      refine lv_iconst (v := 0) hx hb d_Lm_begin_84 (by decide) ?_
      refine sm_20 cx hX hG.1 d_Lm_begin_85 (fun f6 ef6 H locs hX => ?_)
      replace hG := hG.2 f6 ef6
      refine lv_aload_n hx hb d_Lm_begin_86 rfl (lv_at hl 1 rfl) ?_
      refine gm_Lm_above cx hX d_Lm_begin_87 ?_
      refine lv_aload_n hx hb d_Lm_begin_90 rfl (lv_at hl 1 rfl) ?_
      refine gm_Lm_depth cx hX d_Lm_begin_91 ?_
      refine lv_iconst (v := 0) hx hb d_Lm_begin_94 (by decide) ?_
      refine sm_21 cx hX hG.1 d_Lm_begin_95 (fun f7 ef7 H locs hX => ?_)
      replace hG := hG.2 f7 ef7
      refine lv_aload_n hx hb d_Lm_begin_96 rfl (lv_at hl 1 rfl) ?_
      refine lv_dup hx hb d_Lm_begin_97 rfl ?_
      refine gm_Lm_depth cx hX d_Lm_begin_98 ?_
      refine lv_iconst (v := 1) hx hb d_Lm_begin_101 (by decide) ?_
      refine lv_iadd hx hb d_Lm_begin_102 ?_
      refine pm_Lm_depth cx hX d_Lm_begin_103 (fun f8 ef8 H locs hX => ?_)
      replace hG := hG f8 ef8
      refine lv_aload_n hx hb d_Lm_begin_106 rfl (lv_at hl 1 rfl) ?_
      refine lv_iconst (v := 0) hx hb d_Lm_begin_107 (by decide) ?_
      refine pm_Lm_got cx hX d_Lm_begin_108 (fun f9 ef9 H locs hX => ?_)
      replace hG := hG f9 ef9
      exact ll_vret cx hr hlk hX hG d_Lm_begin_111
    · have hG := hG.2 c3
      refine lv_aload_n hx hb d_Lm_begin_49 rfl (lv_at hl 1 rfl) ?_
      refine lv_bipush (v := (-10)) hx hb d_Lm_begin_50 (by decide) ?_
      refine lv_iconst (v := 0) hx hb d_Lm_begin_52 (by decide) ?_
      refine ll_callvv cx hA hX (c_Lm_come l D h cI cZ _ _ _ _ hG) (cw_Lm_95 cx.1.2.2.2.2 (ll_hR (by omega) (by decide))) (va_recv cx.2 hX.1 (ci := 3) (q0 := 0) rfl rfl) rfl hl.1 rfl (Nat.le_of_ble_eq_true rfl) d_Lm_begin_53 ⟨Nat.zero_le _, Nat.zero_le _⟩ (fun f11 H locs hG hX => ?_)
      refine lv_goto (tgt := 111) hx hb d_Lm_begin_56 (by decide) ?_
      exact ll_vret cx hr hlk hX hG d_Lm_begin_111
  · have hG := hG.2 c2
    refine lv_aload_n hx hb d_Lm_begin_26 rfl (lv_at hl 1 rfl) ?_
    refine lv_aload_n hx hb d_Lm_begin_27 rfl (lv_at hl 1 rfl) ?_
    refine gm_Lm_noted cx hX d_Lm_begin_28 ?_
    refine lv_iload_n hx hb d_Lm_begin_31 rfl (lv_at hl 0 rfl) ?_
    refine lm_8 cx hX hG.1 d_Lm_begin_32 ?_
    replace hG := hG.2
    refine lv_iconst (v := 0) hx hb d_Lm_begin_33 (by decide) ?_
    refine ll_callvv cx hA hX (c_Lm_come l D h cI cZ _ _ _ _ hG) (cw_Lm_95 cx.1.2.2.2.2 (ll_hR (by omega) (by decide))) (va_recv cx.2 hX.1 (ci := 3) (q0 := 0) rfl rfl) rfl hl.1 rfl (Nat.le_of_ble_eq_true rfl) d_Lm_begin_34 ⟨Nat.zero_le _, Nat.zero_le _⟩ (fun f13 H locs hG hX => ?_)
    refine lv_goto (tgt := 111) hx hb d_Lm_begin_37 (by decide) ?_
    exact ll_vret cx hr hlk hX hG d_Lm_begin_111
def G_Lm_end (f : ll_S) (a1 : Int32) (a2 : Int32) (K : ll_S → Prop) : Prop := (∀ f1, f1 = ll_w f 23 0 ((f 23 0) - 1) → (vp_in (f1 23 0) 41 ∧ (vp_in (f1 19 ((f1 23 0)).toNatClampNeg) 40 ∧ ∀ f2, f2 = ll_w f1 9 ((f1 19 ((f1 23 0)).toNatClampNeg)).toNatClampNeg (vp_nar .boolean 0) → (G_Lm_come f2 a1 a2 (fun f4 => K f4)))))
set_option maxHeartbeats 4000000 in
set_option maxRecDepth 100000 in
theorem c_Lm_end (l : Launch) (D : va_G) (h : Nat → Nat) (cI cZ : ClassId) (f : ll_S) (a1 : Int32) (a2 : Int32) (K : ll_S → Prop) (hG : G_Lm_end f a1 a2 K) : ll_Mv l y_Lm_end (Cond.code y_Lm_end b_Lm_end 3 none :: ll_xt) (ll_rk 1) D [(cI, .int), (cZ, .boolean)] (wd_M h cI cZ) [.ref (h 0), .int a1, .int a2] f K := by
  refine ll_startv (own := "LoaderLabModel") (by decide) rfl (Nat.le_of_ble_eq_true rfl) (fun p e s m below meth c ls cx hr hlk hA hX hl => ?_)
  have hl : lv_has ls 3 [(0, .ref (h 0)), (1, .int a1), (2, .int a2)] := hl
  obtain ⟨⟨hx, hb, -, -, -⟩, -⟩ := id cx
  unfold G_Lm_end at hG
  refine lv_aload_n hx hb d_Lm_end_0 rfl (lv_at hl 0 rfl) ?_
  refine lv_dup hx hb d_Lm_end_1 rfl ?_
  refine gm_Lm_depth cx hX d_Lm_end_2 ?_
  refine lv_iconst (v := 1) hx hb d_Lm_end_5 (by decide) ?_
  refine lv_isub hx hb d_Lm_end_6 ?_
  refine pm_Lm_depth cx hX d_Lm_end_7 (fun f1 ef1 H locs hX => ?_)
  replace hG := hG f1 ef1
  refine lv_aload_n hx hb d_Lm_end_10 rfl (lv_at hl 0 rfl) ?_
  refine gm_Lm_busy cx hX d_Lm_end_11 ?_
  refine lv_aload_n hx hb d_Lm_end_14 rfl (lv_at hl 0 rfl) ?_
  refine gm_Lm_at cx hX d_Lm_end_15 ?_
  refine lv_aload_n hx hb d_Lm_end_18 rfl (lv_at hl 0 rfl) ?_
  refine gm_Lm_depth cx hX d_Lm_end_19 ?_
  refine lm_19 cx hX hG.1 d_Lm_end_22 ?_
  replace hG := hG.2
  refine lv_iconst (v := 0) hx hb d_Lm_end_23 (by decide) ?_
  refine sm_9 cx hX hG.1 d_Lm_end_24 (fun f2 ef2 H locs hX => ?_)
  replace hG := hG.2 f2 ef2
  refine lv_aload_n hx hb d_Lm_end_25 rfl (lv_at hl 0 rfl) ?_
  refine lv_iload_n hx hb d_Lm_end_26 rfl (lv_at hl 1 rfl) ?_
  refine lv_iload_n hx hb d_Lm_end_27 rfl (lv_at hl 2 rfl) ?_
  refine ll_callvv cx hA hX (c_Lm_come l D h cI cZ _ _ _ _ hG) (cw_Lm_95 cx.1.2.2.2.2 (ll_hR (by omega) (by decide))) (va_recv cx.2 hX.1 (ci := 3) (q0 := 0) rfl rfl) rfl hl.1 rfl (Nat.le_of_ble_eq_true rfl) d_Lm_end_28 ⟨Nat.zero_le _, Nat.zero_le _⟩ (fun f4 H locs hG hX => ?_)
  exact ll_vret cx hr hlk hX hG d_Lm_end_31
def G_Lm_breaks_L (K : Int32 → ll_S → Prop) : Nat → Nat → Int32 → Int32 → Int32 → ll_S → Prop
  | 0, _, _, _, _, _ => False
  | k + 1, _, x1, x2, x3, f => (((5 : Int32) ≤ x3 → K 0 f) ∧ (¬ (5 : Int32) ≤ x3 → (vp_in ((8 * x3) + (x1 - x1 / 8 * 8)) 40 ∧ (vp_in x1 40 ∧ ((¬ (f 10 (((8 * x3) + (x1 - x1 / 8 * 8))).toNatClampNeg) = (f 10 (x1).toNatClampNeg) → (G_Lm_breaks_L K k 0 x1 x2 (x3 + 1) f)) ∧ ((f 10 (((8 * x3) + (x1 - x1 / 8 * 8))).toNatClampNeg) = (f 10 (x1).toNatClampNeg) → (vp_in ((8 * x3) + (x1 - x1 / 8 * 8)) 40 ∧ (((f 8 (((8 * x3) + (x1 - x1 / 8 * 8))).toNatClampNeg) ≤ 0 → (G_Lm_breaks_L K k 0 x1 x2 (x3 + 1) f)) ∧ (¬ (f 8 (((8 * x3) + (x1 - x1 / 8 * 8))).toNatClampNeg) ≤ 0 → (vp_in ((8 * x3) + (x1 - x1 / 8 * 8)) 40 ∧ (((f 8 (((8 * x3) + (x1 - x1 / 8 * 8))).toNatClampNeg) = x2 → (G_Lm_breaks_L K k 0 x1 x2 (x3 + 1) f)) ∧ (¬ (f 8 (((8 * x3) + (x1 - x1 / 8 * 8))).toNatClampNeg) = x2 → K 1 f))))))))))))
def G_Lm_breaks (f : ll_S) (a1 : Int32) (a2 : Int32) (K : Int32 → ll_S → Prop) : Prop := (∃ k, G_Lm_breaks_L K k 0 a1 a2 0 f)
set_option maxHeartbeats 4000000 in
set_option maxRecDepth 100000 in
theorem w_Lm_breaks (l : Launch) {p : Program} {e : Env} {s : State} {m : MethodId} {args : Array Value} {below : List Frame} {meth : Method} {c : Code} {D : va_G} {h : Nat → Nat} {cI cZ : ClassId} {f0 : ll_S} {K : Int32 → ll_S → Prop} (cx : ll_C p m c b_Lm_breaks 5 s args "LoaderLabModel" D [(cI, .int), (cZ, .boolean)]) (hr : meth.sig.returnType = (some .boolean)) (hlk : meth.locks = false) (hA : ∀ q, s.heap.size ≤ q → va_A (wd_M h cI cZ f0) s.heap.size q) : ∀ (k : Nat), (∀ (x1 : Int32) (x2 : Int32) (x3 : Int32) (f : ll_S) (H : Heap) (locs : List Loc) (ls : Array Slot), G_Lm_breaks_L K k 0 x1 x2 x3 f → ll_X D (wd_M h cI cZ) (va_A (wd_M h cI cZ f0) s.heap.size) s.heap H locs f → lv_has ls 5 [(0, .ref (h 0)), (1, .int x1), (2, .int x2), (3, .int x3)] → W p l e (ll_rk 0) s m args below meth c H locs 0 0 (ll_Qi below args s D [(cI, .int), (cZ, .boolean)] (wd_M h cI cZ) f0 K) (F0 m 2 ls [])) := by
  obtain ⟨⟨hx, hb, -, -, -⟩, -⟩ := id cx
  intro k
  induction k with
  | zero => exact fun _ _ _ _ _ _ _ hG => hG.elim
  | succ k ih =>
    · intro x1 x2 x3 f H locs ls hG hX hl
      rw [G_Lm_breaks_L] at hG
      refine lv_iload_n hx hb d_Lm_breaks_2 rfl (lv_at hl 3 rfl) ?_
      refine lv_iconst (v := 5) hx hb d_Lm_breaks_3 (by decide) ?_
      refine lv_icmp_ge (tgt := 63) hx hb d_Lm_breaks_4 (by decide) (fun c1 => ?_) (fun c1 => ?_)
      · have hG := hG.1 c1
        refine lv_iconst (v := 0) hx hb d_Lm_breaks_63 (by decide) ?_
        exact ll_zret cx hr hlk hX (by decide) hG d_Lm_breaks_64
      · have hG := hG.2 c1
        refine lv_bipush (v := 8) hx hb d_Lm_breaks_7 (by decide) ?_
        refine lv_iload_n hx hb d_Lm_breaks_9 rfl (lv_at hl 3 rfl) ?_
        refine lv_imul hx hb d_Lm_breaks_10 ?_
        refine lv_iload_n hx hb d_Lm_breaks_11 rfl (lv_at hl 1 rfl) ?_
        refine lv_bipush (v := 8) hx hb d_Lm_breaks_12 (by decide) ?_
        refine lv_irem hx hb d_Lm_breaks_14 (by decide) ?_
        refine lv_iadd hx hb d_Lm_breaks_15 ?_
        refine lv_istore (lv' := [(4, .int ((8 * x3) + (x1 - x1 / 8 * 8))), (0, .ref (h 0)), (1, .int x1), (2, .int x2), (3, .int x3)]) hx hb d_Lm_breaks_16 hl (by decide) rfl (fun ls hl => ?_)
        refine lv_aload_n hx hb d_Lm_breaks_18 rfl (lv_at hl 1 rfl) ?_
        refine gm_Lm_group cx hX d_Lm_breaks_19 ?_
        refine lv_iload hx hb d_Lm_breaks_22 (lv_at hl 0 rfl) ?_
        refine lm_10 cx hX hG.1 d_Lm_breaks_24 ?_
        replace hG := hG.2
        refine lv_aload_n hx hb d_Lm_breaks_25 rfl (lv_at hl 1 rfl) ?_
        refine gm_Lm_group cx hX d_Lm_breaks_26 ?_
        refine lv_iload_n hx hb d_Lm_breaks_29 rfl (lv_at hl 2 rfl) ?_
        refine lm_10 cx hX hG.1 d_Lm_breaks_30 ?_
        replace hG := hG.2
        refine lv_icmp_ne (tgt := 57) hx hb d_Lm_breaks_31 (by decide) (fun c2 => ?_) (fun c2 => ?_)
        · have hG := hG.1 c2
          refine lv_iinc (v := (x3 + 1)) (lv' := [(3, .int (x3 + 1)), (4, .int ((8 * x3) + (x1 - x1 / 8 * 8))), (0, .ref (h 0)), (1, .int x1), (2, .int x2)]) hx hb d_Lm_breaks_57 hl (k := 4) rfl rfl (by decide) rfl (fun ls hl => ?_)
          refine lv_goto (tgt := 2) hx hb d_Lm_breaks_60 (by decide) ?_
          exact ih _ _ _ _ _ _ _ hG hX (lv_sub hl [2, 3, 4, 0] rfl)
        · have hG := hG.2 c2
          refine lv_aload_n hx hb d_Lm_breaks_34 rfl (lv_at hl 1 rfl) ?_
          refine gm_Lm_noted cx hX d_Lm_breaks_35 ?_
          refine lv_iload hx hb d_Lm_breaks_38 (lv_at hl 0 rfl) ?_
          refine lm_8 cx hX hG.1 d_Lm_breaks_40 ?_
          replace hG := hG.2
          refine lv_if_le (tgt := 57) hx hb d_Lm_breaks_41 (by decide) (fun c3 => ?_) (fun c3 => ?_)
          · have hG := hG.1 c3
            refine lv_iinc (v := (x3 + 1)) (lv' := [(3, .int (x3 + 1)), (4, .int ((8 * x3) + (x1 - x1 / 8 * 8))), (0, .ref (h 0)), (1, .int x1), (2, .int x2)]) hx hb d_Lm_breaks_57 hl (k := 4) rfl rfl (by decide) rfl (fun ls hl => ?_)
            refine lv_goto (tgt := 2) hx hb d_Lm_breaks_60 (by decide) ?_
            exact ih _ _ _ _ _ _ _ hG hX (lv_sub hl [2, 3, 4, 0] rfl)
          · have hG := hG.2 c3
            refine lv_aload_n hx hb d_Lm_breaks_44 rfl (lv_at hl 1 rfl) ?_
            refine gm_Lm_noted cx hX d_Lm_breaks_45 ?_
            refine lv_iload hx hb d_Lm_breaks_48 (lv_at hl 0 rfl) ?_
            refine lm_8 cx hX hG.1 d_Lm_breaks_50 ?_
            replace hG := hG.2
            refine lv_iload_n hx hb d_Lm_breaks_51 rfl (lv_at hl 3 rfl) ?_
            refine lv_icmp_eq (tgt := 57) hx hb d_Lm_breaks_52 (by decide) (fun c4 => ?_) (fun c4 => ?_)
            · have hG := hG.1 c4
              refine lv_iinc (v := (x3 + 1)) (lv' := [(3, .int (x3 + 1)), (4, .int ((8 * x3) + (x1 - x1 / 8 * 8))), (0, .ref (h 0)), (1, .int x1), (2, .int x2)]) hx hb d_Lm_breaks_57 hl (k := 4) rfl rfl (by decide) rfl (fun ls hl => ?_)
              refine lv_goto (tgt := 2) hx hb d_Lm_breaks_60 (by decide) ?_
              exact ih _ _ _ _ _ _ _ hG hX (lv_sub hl [2, 3, 4, 0] rfl)
            · have hG := hG.2 c4
              refine lv_iconst (v := 1) hx hb d_Lm_breaks_55 (by decide) ?_
              exact ll_zret cx hr hlk hX (by decide) hG d_Lm_breaks_56
set_option maxHeartbeats 4000000 in
set_option maxRecDepth 100000 in
theorem c_Lm_breaks (l : Launch) (D : va_G) (h : Nat → Nat) (cI cZ : ClassId) (f : ll_S) (a1 : Int32) (a2 : Int32) (K : Int32 → ll_S → Prop) (hG : G_Lm_breaks f a1 a2 K) : ll_Mi l y_Lm_breaks (Cond.code y_Lm_breaks b_Lm_breaks 5 (some .boolean) :: ll_xt) (ll_rk 0) D [(cI, .int), (cZ, .boolean)] (wd_M h cI cZ) [.ref (h 0), .int a1, .int a2] f K := by
  refine ll_starti (own := "LoaderLabModel") (by decide) rfl (Nat.le_of_ble_eq_true rfl) (fun p e s m below meth c ls cx hr hlk hA hX hl => ?_)
  have hl : lv_has ls 5 [(0, .ref (h 0)), (1, .int a1), (2, .int a2)] := hl
  obtain ⟨⟨hx, hb, -, -, -⟩, -⟩ := id cx
  unfold G_Lm_breaks at hG
  refine lv_iconst (v := 0) hx hb d_Lm_breaks_0 (by decide) ?_
  refine lv_istore_n (lv' := [(3, .int 0), (0, .ref (h 0)), (1, .int a1), (2, .int a2)]) hx hb d_Lm_breaks_1 rfl hl (by decide) rfl (fun ls hl => ?_)
  obtain ⟨kf, hG⟩ := hG
  exact (w_Lm_breaks l cx hr hlk hA kf) _ _ _ _ _ _ _ hG hX (lv_sub hl [1, 2, 3, 0] rfl)
def G_Lm_answered (f : ll_S) (a1 : Int32) (K : ll_S → Prop) : Prop := ((0 ≤ (f 24 0) → (vp_in (f 24 0) 31 ∧ (((f 11 ((f 24 0)).toNatClampNeg) = (a1 - a1 / 8 * 8) → (G_Lm_breaks f a1 (f 24 0) (fun r3 f4 => ((r3 = 0 → (vp_in a1 40 ∧ ∀ f6, f6 = ll_w f4 8 (a1).toNatClampNeg (f4 24 0) → (G_Lm_end f6 (f6 24 0) 0 (fun f8 => K f8)))) ∧ (¬ r3 = 0 → (G_Lm_end f4 (-9) 0 (fun f10 => K f10))))))) ∧ (¬ (f 11 ((f 24 0)).toNatClampNeg) = (a1 - a1 / 8 * 8) → (G_Lm_end f (-5) 0 (fun f12 => K f12)))))) ∧ (¬ 0 ≤ (f 24 0) → (G_Lm_end f (f 24 0) (f 25 0) (fun f14 => K f14))))
set_option maxHeartbeats 4000000 in
set_option maxRecDepth 100000 in
theorem c_Lm_answered (l : Launch) (D : va_G) (h : Nat → Nat) (cI cZ : ClassId) (f : ll_S) (a1 : Int32) (K : ll_S → Prop) (hG : G_Lm_answered f a1 K) : ll_Mv l y_Lm_answered (Cond.code y_Lm_answered b_Lm_answered 2 none :: ll_xt) (ll_rk 2) D [(cI, .int), (cZ, .boolean)] (wd_M h cI cZ) [.ref (h 0), .int a1] f K := by
  refine ll_startv (own := "LoaderLabModel") (by decide) rfl (Nat.le_of_ble_eq_true rfl) (fun p e s m below meth c ls cx hr hlk hA hX hl => ?_)
  have hl : lv_has ls 2 [(0, .ref (h 0)), (1, .int a1)] := hl
  obtain ⟨⟨hx, hb, -, -, -⟩, -⟩ := id cx
  unfold G_Lm_answered at hG
  refine lv_aload_n hx hb d_Lm_answered_0 rfl (lv_at hl 0 rfl) ?_
  refine gm_Lm_got cx hX d_Lm_answered_1 ?_
  refine lv_if_ge (tgt := 22) hx hb d_Lm_answered_4 (by decide) (fun c1 => ?_) (fun c1 => ?_)
  · have hG := hG.1 c1
    refine lv_aload_n hx hb d_Lm_answered_22 rfl (lv_at hl 0 rfl) ?_
    refine gm_Lm_name cx hX d_Lm_answered_23 ?_
    refine lv_aload_n hx hb d_Lm_answered_26 rfl (lv_at hl 0 rfl) ?_
    refine gm_Lm_got cx hX d_Lm_answered_27 ?_
    refine lm_11 cx hX hG.1 d_Lm_answered_30 ?_
    replace hG := hG.2
    refine lv_iload_n hx hb d_Lm_answered_31 rfl (lv_at hl 1 rfl) ?_
    refine lv_bipush (v := 8) hx hb d_Lm_answered_32 (by decide) ?_
    refine lv_irem hx hb d_Lm_answered_34 (by decide) ?_
    refine lv_icmp_eq (tgt := 48) hx hb d_Lm_answered_35 (by decide) (fun c2 => ?_) (fun c2 => ?_)
    · have hG := hG.1 c2
      refine lv_aload_n hx hb d_Lm_answered_48 rfl (lv_at hl 0 rfl) ?_
      refine lv_iload_n hx hb d_Lm_answered_49 rfl (lv_at hl 1 rfl) ?_
      refine lv_aload_n hx hb d_Lm_answered_50 rfl (lv_at hl 0 rfl) ?_
      refine gm_Lm_got cx hX d_Lm_answered_51 ?_
      refine ll_callvi cx hA hX (c_Lm_breaks l D h cI cZ _ _ _ _ hG) (cw_Lm_143 cx.1.2.2.2.2 (ll_hR (by omega) (by decide))) (va_recv cx.2 hX.1 (ci := 3) (q0 := 0) rfl rfl) rfl hl.1 rfl (Nat.le_of_ble_eq_true rfl) d_Lm_answered_54 ⟨Nat.zero_le _, Nat.zero_le _⟩ (fun r3 f4 H locs hG hX => ?_)
      refine lv_if_eq (tgt := 70) hx hb d_Lm_answered_57 (by decide) (fun c5 => ?_) (fun c5 => ?_)
      · have hG := hG.1 c5
        refine lv_aload_n hx hb d_Lm_answered_70 rfl (lv_at hl 0 rfl) ?_
        refine gm_Lm_noted cx hX d_Lm_answered_71 ?_
        refine lv_iload_n hx hb d_Lm_answered_74 rfl (lv_at hl 1 rfl) ?_
        refine lv_aload_n hx hb d_Lm_answered_75 rfl (lv_at hl 0 rfl) ?_
        refine gm_Lm_got cx hX d_Lm_answered_76 ?_
        refine sm_8 cx hX hG.1 d_Lm_answered_79 (fun f6 ef6 H locs hX => ?_)
        replace hG := hG.2 f6 ef6
        refine lv_aload_n hx hb d_Lm_answered_80 rfl (lv_at hl 0 rfl) ?_
        refine lv_aload_n hx hb d_Lm_answered_81 rfl (lv_at hl 0 rfl) ?_
        refine gm_Lm_got cx hX d_Lm_answered_82 ?_
        refine lv_iconst (v := 0) hx hb d_Lm_answered_85 (by decide) ?_
        refine ll_callvv cx hA hX (c_Lm_end l D h cI cZ _ _ _ _ hG) (cw_Lm_134 cx.1.2.2.2.2 (ll_hR (by omega) (by decide))) (va_recv cx.2 hX.1 (ci := 3) (q0 := 0) rfl rfl) rfl hl.1 rfl (Nat.le_of_ble_eq_true rfl) d_Lm_answered_86 ⟨Nat.zero_le _, Nat.zero_le _⟩ (fun f8 H locs hG hX => ?_)
        exact ll_vret cx hr hlk hX hG d_Lm_answered_89
      · have hG := hG.2 c5
        refine lv_aload_n hx hb d_Lm_answered_60 rfl (lv_at hl 0 rfl) ?_
        refine lv_bipush (v := (-9)) hx hb d_Lm_answered_61 (by decide) ?_
        refine lv_iconst (v := 0) hx hb d_Lm_answered_63 (by decide) ?_
        refine ll_callvv cx hA hX (c_Lm_end l D h cI cZ _ _ _ _ hG) (cw_Lm_134 cx.1.2.2.2.2 (ll_hR (by omega) (by decide))) (va_recv cx.2 hX.1 (ci := 3) (q0 := 0) rfl rfl) rfl hl.1 rfl (Nat.le_of_ble_eq_true rfl) d_Lm_answered_64 ⟨Nat.zero_le _, Nat.zero_le _⟩ (fun f10 H locs hG hX => ?_)
        refine lv_goto (tgt := 89) hx hb d_Lm_answered_67 (by decide) ?_
        exact ll_vret cx hr hlk hX hG d_Lm_answered_89
    · have hG := hG.2 c2
      refine lv_aload_n hx hb d_Lm_answered_38 rfl (lv_at hl 0 rfl) ?_
      refine lv_bipush (v := (-5)) hx hb d_Lm_answered_39 (by decide) ?_
      refine lv_iconst (v := 0) hx hb d_Lm_answered_41 (by decide) ?_
      refine ll_callvv cx hA hX (c_Lm_end l D h cI cZ _ _ _ _ hG) (cw_Lm_134 cx.1.2.2.2.2 (ll_hR (by omega) (by decide))) (va_recv cx.2 hX.1 (ci := 3) (q0 := 0) rfl rfl) rfl hl.1 rfl (Nat.le_of_ble_eq_true rfl) d_Lm_answered_42 ⟨Nat.zero_le _, Nat.zero_le _⟩ (fun f12 H locs hG hX => ?_)
      refine lv_goto (tgt := 89) hx hb d_Lm_answered_45 (by decide) ?_
      exact ll_vret cx hr hlk hX hG d_Lm_answered_89
  · have hG := hG.2 c1
    refine lv_aload_n hx hb d_Lm_answered_7 rfl (lv_at hl 0 rfl) ?_
    refine lv_aload_n hx hb d_Lm_answered_8 rfl (lv_at hl 0 rfl) ?_
    refine gm_Lm_got cx hX d_Lm_answered_9 ?_
    refine lv_aload_n hx hb d_Lm_answered_12 rfl (lv_at hl 0 rfl) ?_
    refine gm_Lm_gotCause cx hX d_Lm_answered_13 ?_
    refine ll_callvv cx hA hX (c_Lm_end l D h cI cZ _ _ _ _ hG) (cw_Lm_134 cx.1.2.2.2.2 (ll_hR (by omega) (by decide))) (va_recv cx.2 hX.1 (ci := 3) (q0 := 0) rfl rfl) rfl hl.1 rfl (Nat.le_of_ble_eq_true rfl) d_Lm_answered_16 ⟨Nat.zero_le _, Nat.zero_le _⟩ (fun f14 H locs hG hX => ?_)
    refine lv_goto (tgt := 89) hx hb d_Lm_answered_19 (by decide) ?_
    exact ll_vret cx hr hlk hX hG d_Lm_answered_89
def G_Lm_go (f : ll_S) (a1 : Int32) (K : ll_S → Prop) : Prop := (vp_in ((f 23 0) - 1) 41 ∧ ∀ f1, f1 = ll_w f 20 (((f 23 0) - 1)).toNatClampNeg a1 → K f1)
set_option maxHeartbeats 4000000 in
set_option maxRecDepth 100000 in
theorem c_Lm_go (l : Launch) (D : va_G) (h : Nat → Nat) (cI cZ : ClassId) (f : ll_S) (a1 : Int32) (K : ll_S → Prop) (hG : G_Lm_go f a1 K) : ll_Mv l y_Lm_go (Cond.code y_Lm_go b_Lm_go 2 none :: ll_xt) (ll_rk 0) D [(cI, .int), (cZ, .boolean)] (wd_M h cI cZ) [.ref (h 0), .int a1] f K := by
  refine ll_startv (own := "LoaderLabModel") (by decide) rfl (Nat.le_of_ble_eq_true rfl) (fun p e s m below meth c ls cx hr hlk hA hX hl => ?_)
  have hl : lv_has ls 2 [(0, .ref (h 0)), (1, .int a1)] := hl
  obtain ⟨⟨hx, hb, -, -, -⟩, -⟩ := id cx
  unfold G_Lm_go at hG
  refine lv_aload_n hx hb d_Lm_go_0 rfl (lv_at hl 0 rfl) ?_
  refine gm_Lm_step cx hX d_Lm_go_1 ?_
  refine lv_aload_n hx hb d_Lm_go_4 rfl (lv_at hl 0 rfl) ?_
  refine gm_Lm_depth cx hX d_Lm_go_5 ?_
  refine lv_iconst (v := 1) hx hb d_Lm_go_8 (by decide) ?_
  refine lv_isub hx hb d_Lm_go_9 ?_
  refine lv_iload_n hx hb d_Lm_go_10 rfl (lv_at hl 1 rfl) ?_
  refine sm_20 cx hX hG.1 d_Lm_go_11 (fun f1 ef1 H locs hX => ?_)
  replace hG := hG.2 f1 ef1
  exact ll_vret cx hr hlk hX hG d_Lm_go_12
def G_Lm_ask (f : ll_S) (a1 : Int32) (a2 : Int32) (a3 : Int32) (K : ll_S → Prop) : Prop := (G_Lm_go f a3 (fun f2 => (G_Lm_begin f2 a1 a2 (fun f4 => K f4))))
set_option maxHeartbeats 4000000 in
set_option maxRecDepth 100000 in
theorem c_Lm_ask (l : Launch) (D : va_G) (h : Nat → Nat) (cI cZ : ClassId) (f : ll_S) (a1 : Int32) (a2 : Int32) (a3 : Int32) (K : ll_S → Prop) (hG : G_Lm_ask f a1 a2 a3 K) : ll_Mv l y_Lm_ask (Cond.code y_Lm_ask b_Lm_ask 4 none :: ll_xt) (ll_rk 2) D [(cI, .int), (cZ, .boolean)] (wd_M h cI cZ) [.ref (h 0), .int a1, .int a2, .int a3] f K := by
  refine ll_startv (own := "LoaderLabModel") (by decide) rfl (Nat.le_of_ble_eq_true rfl) (fun p e s m below meth c ls cx hr hlk hA hX hl => ?_)
  have hl : lv_has ls 4 [(0, .ref (h 0)), (1, .int a1), (2, .int a2), (3, .int a3)] := hl
  obtain ⟨⟨hx, hb, -, -, -⟩, -⟩ := id cx
  unfold G_Lm_ask at hG
  refine lv_aload_n hx hb d_Lm_ask_0 rfl (lv_at hl 0 rfl) ?_
  refine lv_iload_n hx hb d_Lm_ask_1 rfl (lv_at hl 3 rfl) ?_
  refine ll_callvv cx hA hX (c_Lm_go l D h cI cZ _ _ _ hG) (cw_Lm_131 cx.1.2.2.2.2 (ll_hR (by omega) (by decide))) (va_recv cx.2 hX.1 (ci := 3) (q0 := 0) rfl rfl) rfl hl.1 rfl (Nat.le_of_ble_eq_true rfl) d_Lm_ask_2 ⟨Nat.zero_le _, Nat.zero_le _⟩ (fun f2 H locs hG hX => ?_)
  refine lv_aload_n hx hb d_Lm_ask_5 rfl (lv_at hl 0 rfl) ?_
  refine lv_iload_n hx hb d_Lm_ask_6 rfl (lv_at hl 1 rfl) ?_
  refine lv_iload_n hx hb d_Lm_ask_7 rfl (lv_at hl 2 rfl) ?_
  refine ll_callvv cx hA hX (c_Lm_begin l D h cI cZ _ _ _ _ hG) (cw_Lm_140 cx.1.2.2.2.2 (ll_hR (by omega) (by decide))) (va_recv cx.2 hX.1 (ci := 3) (q0 := 0) rfl rfl) rfl hl.1 rfl (Nat.le_of_ble_eq_true rfl) d_Lm_ask_8 ⟨Nat.zero_le _, Nat.zero_le _⟩ (fun f4 H locs hG hX => ?_)
  exact ll_vret cx hr hlk hX hG d_Lm_ask_11
def G_Lm_askFor (f : ll_S) (a1 : Int32) (a2 : Int32) (a3 : Int32) (K : ll_S → Prop) : Prop := ((¬ a2 = (8 : Int32) → (vp_in (((a1 / 8) * 8) + a2) 40 ∧ (((f 9 ((((a1 / 8) * 8) + a2)).toNatClampNeg) = 0 → (G_Lm_ask f (a1 / 8) a2 a3 (fun f4 => K f4))) ∧ (¬ (f 9 ((((a1 / 8) * 8) + a2)).toNatClampNeg) = 0 → (G_Lm_end f (-7) 0 (fun f6 => K f6)))))) ∧ (a2 = (8 : Int32) → ((¬ a3 = (5 : Int32) → (G_Lm_go f 8 (fun f9 => K f9))) ∧ (a3 = (5 : Int32) → (G_Lm_go f 7 (fun f11 => K f11))))))
set_option maxHeartbeats 4000000 in
set_option maxRecDepth 100000 in
theorem c_Lm_askFor (l : Launch) (D : va_G) (h : Nat → Nat) (cI cZ : ClassId) (f : ll_S) (a1 : Int32) (a2 : Int32) (a3 : Int32) (K : ll_S → Prop) (hG : G_Lm_askFor f a1 a2 a3 K) : ll_Mv l y_Lm_askFor (Cond.code y_Lm_askFor b_Lm_askFor 4 none :: ll_xt) (ll_rk 3) D [(cI, .int), (cZ, .boolean)] (wd_M h cI cZ) [.ref (h 0), .int a1, .int a2, .int a3] f K := by
  refine ll_startv (own := "LoaderLabModel") (by decide) rfl (Nat.le_of_ble_eq_true rfl) (fun p e s m below meth c ls cx hr hlk hA hX hl => ?_)
  have hl : lv_has ls 4 [(0, .ref (h 0)), (1, .int a1), (2, .int a2), (3, .int a3)] := hl
  obtain ⟨⟨hx, hb, -, -, -⟩, -⟩ := id cx
  unfold G_Lm_askFor at hG
  refine lv_iload_n hx hb d_Lm_askFor_0 rfl (lv_at hl 2 rfl) ?_
  refine lv_bipush (v := 8) hx hb d_Lm_askFor_1 (by decide) ?_
  refine lv_icmp_ne (tgt := 25) hx hb d_Lm_askFor_3 (by decide) (fun c1 => ?_) (fun c1 => ?_)
  · have hG := hG.1 c1
    refine lv_aload_n hx hb d_Lm_askFor_25 rfl (lv_at hl 0 rfl) ?_
    refine gm_Lm_busy cx hX d_Lm_askFor_26 ?_
    refine lv_iload_n hx hb d_Lm_askFor_29 rfl (lv_at hl 1 rfl) ?_
    refine lv_bipush (v := 8) hx hb d_Lm_askFor_30 (by decide) ?_
    refine lv_idiv hx hb d_Lm_askFor_32 (by decide) ?_
    refine lv_bipush (v := 8) hx hb d_Lm_askFor_33 (by decide) ?_
    refine lv_imul hx hb d_Lm_askFor_35 ?_
    refine lv_iload_n hx hb d_Lm_askFor_36 rfl (lv_at hl 2 rfl) ?_
    refine lv_iadd hx hb d_Lm_askFor_37 ?_
    refine lm_9 cx hX hG.1 d_Lm_askFor_38 ?_
    replace hG := hG.2
    refine lv_if_eq (tgt := 52) hx hb d_Lm_askFor_39 (by decide) (fun c2 => ?_) (fun c2 => ?_)
    · have hG := hG.1 c2
      refine lv_aload_n hx hb d_Lm_askFor_52 rfl (lv_at hl 0 rfl) ?_
      refine lv_iload_n hx hb d_Lm_askFor_53 rfl (lv_at hl 1 rfl) ?_
      refine lv_bipush (v := 8) hx hb d_Lm_askFor_54 (by decide) ?_
      refine lv_idiv hx hb d_Lm_askFor_56 (by decide) ?_
      refine lv_iload_n hx hb d_Lm_askFor_57 rfl (lv_at hl 2 rfl) ?_
      refine lv_iload_n hx hb d_Lm_askFor_58 rfl (lv_at hl 3 rfl) ?_
      refine ll_callvv cx hA hX (c_Lm_ask l D h cI cZ _ _ _ _ _ hG) (cw_Lm_137 cx.1.2.2.2.2 (ll_hR (by omega) (by decide))) (va_recv cx.2 hX.1 (ci := 3) (q0 := 0) rfl rfl) rfl hl.1 rfl (Nat.le_of_ble_eq_true rfl) d_Lm_askFor_59 ⟨Nat.zero_le _, Nat.zero_le _⟩ (fun f4 H locs hG hX => ?_)
      exact ll_vret cx hr hlk hX hG d_Lm_askFor_62
    · have hG := hG.2 c2
      refine lv_aload_n hx hb d_Lm_askFor_42 rfl (lv_at hl 0 rfl) ?_
      refine lv_bipush (v := (-7)) hx hb d_Lm_askFor_43 (by decide) ?_
      refine lv_iconst (v := 0) hx hb d_Lm_askFor_45 (by decide) ?_
      refine ll_callvv cx hA hX (c_Lm_end l D h cI cZ _ _ _ _ hG) (cw_Lm_134 cx.1.2.2.2.2 (ll_hR (by omega) (by decide))) (va_recv cx.2 hX.1 (ci := 3) (q0 := 0) rfl rfl) rfl hl.1 rfl (Nat.le_of_ble_eq_true rfl) d_Lm_askFor_46 ⟨Nat.zero_le _, Nat.zero_le _⟩ (fun f6 H locs hG hX => ?_)
      refine lv_goto (tgt := 62) hx hb d_Lm_askFor_49 (by decide) ?_
      exact ll_vret cx hr hlk hX hG d_Lm_askFor_62
  · have hG := hG.2 c1
    refine lv_aload_n hx hb d_Lm_askFor_6 rfl (lv_at hl 0 rfl) ?_
    refine lv_iload_n hx hb d_Lm_askFor_7 rfl (lv_at hl 3 rfl) ?_
    refine lv_iconst (v := 5) hx hb d_Lm_askFor_8 (by decide) ?_
    refine lv_icmp_ne (tgt := 17) hx hb d_Lm_askFor_9 (by decide) (fun c7 => ?_) (fun c7 => ?_)
    · have hG := hG.1 c7
      refine lv_bipush (v := 8) hx hb d_Lm_askFor_17 (by decide) ?_
      refine ll_callvv cx hA hX (c_Lm_go l D h cI cZ _ _ _ hG) (cw_Lm_131 cx.1.2.2.2.2 (ll_hR (by omega) (by decide))) (va_recv cx.2 hX.1 (ci := 3) (q0 := 0) rfl rfl) rfl hl.1 rfl (Nat.le_of_ble_eq_true rfl) d_Lm_askFor_19 ⟨Nat.zero_le _, Nat.zero_le _⟩ (fun f9 H locs hG hX => ?_)
      refine lv_goto (tgt := 62) hx hb d_Lm_askFor_22 (by decide) ?_
      exact ll_vret cx hr hlk hX hG d_Lm_askFor_62
    · have hG := hG.2 c7
      refine lv_bipush (v := 7) hx hb d_Lm_askFor_12 (by decide) ?_
      refine lv_goto (tgt := 19) hx hb d_Lm_askFor_14 (by decide) ?_
      refine ll_callvv cx hA hX (c_Lm_go l D h cI cZ _ _ _ hG) (cw_Lm_131 cx.1.2.2.2.2 (ll_hR (by omega) (by decide))) (va_recv cx.2 hX.1 (ci := 3) (q0 := 0) rfl rfl) rfl hl.1 rfl (Nat.le_of_ble_eq_true rfl) d_Lm_askFor_19 ⟨Nat.zero_le _, Nat.zero_le _⟩ (fun f11 H locs hG hX => ?_)
      refine lv_goto (tgt := 62) hx hb d_Lm_askFor_22 (by decide) ?_
      exact ll_vret cx hr hlk hX hG d_Lm_askFor_62
def G_Lm_define (f : ll_S) (a1 : Int32) (K : ll_S → Prop) : Prop := (vp_in a1 40 ∧ ((¬ (f 1 (a1).toNatClampNeg) = 0 → (vp_in a1 40 ∧ ((((f 5 (a1).toNatClampNeg) &&& 4) = 0 → (vp_in a1 40 ∧ (((f 2 (a1).toNatClampNeg) = (a1 - a1 / 8 * 8) → (vp_in a1 40 ∧ (G_Lm_askFor f a1 (f 3 (a1).toNatClampNeg) 5 (fun f5 => K f5)))) ∧ (¬ (f 2 (a1).toNatClampNeg) = (a1 - a1 / 8 * 8) → (G_Lm_end f (-5) 0 (fun f7 => K f7)))))) ∧ (¬ ((f 5 (a1).toNatClampNeg) &&& 4) = 0 → (G_Lm_end f (-6) 0 (fun f9 => K f9)))))) ∧ ((f 1 (a1).toNatClampNeg) = 0 → (G_Lm_end f (-3) 0 (fun f11 => K f11)))))
set_option maxHeartbeats 4000000 in
set_option maxRecDepth 100000 in
theorem c_Lm_define (l : Launch) (D : va_G) (h : Nat → Nat) (cI cZ : ClassId) (f : ll_S) (a1 : Int32) (K : ll_S → Prop) (hG : G_Lm_define f a1 K) : ll_Mv l y_Lm_define (Cond.code y_Lm_define b_Lm_define 2 none :: ll_xt) (ll_rk 4) D [(cI, .int), (cZ, .boolean)] (wd_M h cI cZ) [.ref (h 0), .int a1] f K := by
  refine ll_startv (own := "LoaderLabModel") (by decide) rfl (Nat.le_of_ble_eq_true rfl) (fun p e s m below meth c ls cx hr hlk hA hX hl => ?_)
  have hl : lv_has ls 2 [(0, .ref (h 0)), (1, .int a1)] := hl
  obtain ⟨⟨hx, hb, -, -, -⟩, -⟩ := id cx
  unfold G_Lm_define at hG
  refine lv_aload_n hx hb d_Lm_define_0 rfl (lv_at hl 0 rfl) ?_
  refine gm_Lm_hasFile cx hX d_Lm_define_1 ?_
  refine lv_iload_n hx hb d_Lm_define_4 rfl (lv_at hl 1 rfl) ?_
  refine lm_1 cx hX hG.1 d_Lm_define_5 ?_
  replace hG := hG.2
  refine lv_if_ne (tgt := 19) hx hb d_Lm_define_6 (by decide) (fun c1 => ?_) (fun c1 => ?_)
  · have hG := hG.1 c1
    refine lv_aload_n hx hb d_Lm_define_19 rfl (lv_at hl 0 rfl) ?_
    refine gm_Lm_fileMarks cx hX d_Lm_define_20 ?_
    refine lv_iload_n hx hb d_Lm_define_23 rfl (lv_at hl 1 rfl) ?_
    refine lm_5 cx hX hG.1 d_Lm_define_24 ?_
    replace hG := hG.2
    refine lv_iconst (v := 4) hx hb d_Lm_define_25 (by decide) ?_
    refine lv_iand hx hb d_Lm_define_26 ?_
    refine lv_if_eq (tgt := 40) hx hb d_Lm_define_27 (by decide) (fun c2 => ?_) (fun c2 => ?_)
    · have hG := hG.1 c2
      refine lv_aload_n hx hb d_Lm_define_40 rfl (lv_at hl 0 rfl) ?_
      refine gm_Lm_says cx hX d_Lm_define_41 ?_
      refine lv_iload_n hx hb d_Lm_define_44 rfl (lv_at hl 1 rfl) ?_
      refine lm_2 cx hX hG.1 d_Lm_define_45 ?_
      replace hG := hG.2
      refine lv_iload_n hx hb d_Lm_define_46 rfl (lv_at hl 1 rfl) ?_
      refine lv_bipush (v := 8) hx hb d_Lm_define_47 (by decide) ?_
      refine lv_irem hx hb d_Lm_define_49 (by decide) ?_
      refine lv_icmp_eq (tgt := 63) hx hb d_Lm_define_50 (by decide) (fun c3 => ?_) (fun c3 => ?_)
      · have hG := hG.1 c3
        refine lv_aload_n hx hb d_Lm_define_63 rfl (lv_at hl 0 rfl) ?_
        refine lv_iload_n hx hb d_Lm_define_64 rfl (lv_at hl 1 rfl) ?_
        refine lv_aload_n hx hb d_Lm_define_65 rfl (lv_at hl 0 rfl) ?_
        refine gm_Lm_fileSuper cx hX d_Lm_define_66 ?_
        refine lv_iload_n hx hb d_Lm_define_69 rfl (lv_at hl 1 rfl) ?_
        refine lm_3 cx hX hG.1 d_Lm_define_70 ?_
        replace hG := hG.2
        refine lv_iconst (v := 5) hx hb d_Lm_define_71 (by decide) ?_
        refine ll_callvv cx hA hX (c_Lm_askFor l D h cI cZ _ _ _ _ _ hG) (cw_Lm_121 cx.1.2.2.2.2 (ll_hR (by omega) (by decide))) (va_recv cx.2 hX.1 (ci := 3) (q0 := 0) rfl rfl) rfl hl.1 rfl (Nat.le_of_ble_eq_true rfl) d_Lm_define_72 ⟨Nat.zero_le _, Nat.zero_le _⟩ (fun f5 H locs hG hX => ?_)
        exact ll_vret cx hr hlk hX hG d_Lm_define_75
      · have hG := hG.2 c3
        refine lv_aload_n hx hb d_Lm_define_53 rfl (lv_at hl 0 rfl) ?_
        refine lv_bipush (v := (-5)) hx hb d_Lm_define_54 (by decide) ?_
        refine lv_iconst (v := 0) hx hb d_Lm_define_56 (by decide) ?_
        refine ll_callvv cx hA hX (c_Lm_end l D h cI cZ _ _ _ _ hG) (cw_Lm_134 cx.1.2.2.2.2 (ll_hR (by omega) (by decide))) (va_recv cx.2 hX.1 (ci := 3) (q0 := 0) rfl rfl) rfl hl.1 rfl (Nat.le_of_ble_eq_true rfl) d_Lm_define_57 ⟨Nat.zero_le _, Nat.zero_le _⟩ (fun f7 H locs hG hX => ?_)
        refine lv_goto (tgt := 75) hx hb d_Lm_define_60 (by decide) ?_
        exact ll_vret cx hr hlk hX hG d_Lm_define_75
    · have hG := hG.2 c2
      refine lv_aload_n hx hb d_Lm_define_30 rfl (lv_at hl 0 rfl) ?_
      refine lv_bipush (v := (-6)) hx hb d_Lm_define_31 (by decide) ?_
      refine lv_iconst (v := 0) hx hb d_Lm_define_33 (by decide) ?_
      refine ll_callvv cx hA hX (c_Lm_end l D h cI cZ _ _ _ _ hG) (cw_Lm_134 cx.1.2.2.2.2 (ll_hR (by omega) (by decide))) (va_recv cx.2 hX.1 (ci := 3) (q0 := 0) rfl rfl) rfl hl.1 rfl (Nat.le_of_ble_eq_true rfl) d_Lm_define_34 ⟨Nat.zero_le _, Nat.zero_le _⟩ (fun f9 H locs hG hX => ?_)
      refine lv_goto (tgt := 75) hx hb d_Lm_define_37 (by decide) ?_
      exact ll_vret cx hr hlk hX hG d_Lm_define_75
  · have hG := hG.2 c1
    refine lv_aload_n hx hb d_Lm_define_9 rfl (lv_at hl 0 rfl) ?_
    refine lv_bipush (v := (-3)) hx hb d_Lm_define_10 (by decide) ?_
    refine lv_iconst (v := 0) hx hb d_Lm_define_12 (by decide) ?_
    refine ll_callvv cx hA hX (c_Lm_end l D h cI cZ _ _ _ _ hG) (cw_Lm_134 cx.1.2.2.2.2 (ll_hR (by omega) (by decide))) (va_recv cx.2 hX.1 (ci := 3) (q0 := 0) rfl rfl) rfl hl.1 rfl (Nat.le_of_ble_eq_true rfl) d_Lm_define_13 ⟨Nat.zero_le _, Nat.zero_le _⟩ (fun f11 H locs hG hX => ?_)
    refine lv_goto (tgt := 75) hx hb d_Lm_define_16 (by decide) ?_
    exact ll_vret cx hr hlk hX hG d_Lm_define_75
def G_Lm_make (f : ll_S) (a1 : Int32) (K : ll_S → Prop) : Prop := ((¬ (f 22 0) = (30 : Int32) → (∀ f2, f2 = ll_w f 22 0 ((f 22 0) + 1) → (vp_in (f2 22 0) 31 ∧ ∀ f3, f3 = ll_w f2 11 ((f2 22 0)).toNatClampNeg (a1 - a1 / 8 * 8) → (vp_in (f3 22 0) 31 ∧ ∀ f4, f4 = ll_w f3 12 ((f3 22 0)).toNatClampNeg (a1 / 8) → (vp_in ((f4 23 0) - 1) 41 ∧ (vp_in (f4 22 0) 31 ∧ ∀ f5, f5 = ll_w f4 13 ((f4 22 0)).toNatClampNeg ((f4 21 (((f4 23 0) - 1)).toNatClampNeg) - (f4 21 (((f4 23 0) - 1)).toNatClampNeg) / 100 * 100) → (vp_in ((f5 23 0) - 1) 41 ∧ (vp_in (f5 22 0) 31 ∧ ∀ f6, f6 = ll_w f5 14 ((f5 22 0)).toNatClampNeg ((f5 21 (((f5 23 0) - 1)).toNatClampNeg) / 100) → (vp_in a1 40 ∧ (vp_in (f6 22 0) 31 ∧ ∀ f7, f7 = ll_w f6 15 ((f6 22 0)).toNatClampNeg (f6 5 (a1).toNatClampNeg) → (G_Lm_come f7 (f7 22 0) 0 (fun f9 => (G_Lm_go f9 2 (fun f11 => K f11)))))))))))))) ∧ ((f 22 0) = (30 : Int32) → (G_Lm_end f (-2) 0 (fun f13 => K f13))))
set_option maxHeartbeats 4000000 in
set_option maxRecDepth 100000 in
theorem c_Lm_make (l : Launch) (D : va_G) (h : Nat → Nat) (cI cZ : ClassId) (f : ll_S) (a1 : Int32) (K : ll_S → Prop) (hG : G_Lm_make f a1 K) : ll_Mv l y_Lm_make (Cond.code y_Lm_make b_Lm_make 2 none :: ll_xt) (ll_rk 2) D [(cI, .int), (cZ, .boolean)] (wd_M h cI cZ) [.ref (h 0), .int a1] f K := by
  refine ll_startv (own := "LoaderLabModel") (by decide) rfl (Nat.le_of_ble_eq_true rfl) (fun p e s m below meth c ls cx hr hlk hA hX hl => ?_)
  have hl : lv_has ls 2 [(0, .ref (h 0)), (1, .int a1)] := hl
  obtain ⟨⟨hx, hb, -, -, -⟩, -⟩ := id cx
  unfold G_Lm_make at hG
  refine lv_aload_n hx hb d_Lm_make_0 rfl (lv_at hl 0 rfl) ?_
  refine gm_Lm_classes cx hX d_Lm_make_1 ?_
  refine lv_bipush (v := 30) hx hb d_Lm_make_4 (by decide) ?_
  refine lv_icmp_ne (tgt := 17) hx hb d_Lm_make_6 (by decide) (fun c1 => ?_) (fun c1 => ?_)
  · have hG := hG.1 c1
    refine lv_aload_n hx hb d_Lm_make_17 rfl (lv_at hl 0 rfl) ?_
    refine lv_dup hx hb d_Lm_make_18 rfl ?_
    refine gm_Lm_classes cx hX d_Lm_make_19 ?_
    refine lv_iconst (v := 1) hx hb d_Lm_make_22 (by decide) ?_
    refine lv_iadd hx hb d_Lm_make_23 ?_
    refine pm_Lm_classes cx hX d_Lm_make_24 (fun f2 ef2 H locs hX => ?_)
    replace hG := hG f2 ef2
    refine lv_aload_n hx hb d_Lm_make_27 rfl (lv_at hl 0 rfl) ?_
    refine gm_Lm_name cx hX d_Lm_make_28 ?_
    refine lv_aload_n hx hb d_Lm_make_31 rfl (lv_at hl 0 rfl) ?_
    refine gm_Lm_classes cx hX d_Lm_make_32 ?_
    refine lv_iload_n hx hb d_Lm_make_35 rfl (lv_at hl 1 rfl) ?_
    refine lv_bipush (v := 8) hx hb d_Lm_make_36 (by decide) ?_
    refine lv_irem hx hb d_Lm_make_38 (by decide) ?_
    refine sm_11 cx hX hG.1 d_Lm_make_39 (fun f3 ef3 H locs hX => ?_)
    replace hG := hG.2 f3 ef3
    refine lv_aload_n hx hb d_Lm_make_40 rfl (lv_at hl 0 rfl) ?_
    refine gm_Lm_owner cx hX d_Lm_make_41 ?_
    refine lv_aload_n hx hb d_Lm_make_44 rfl (lv_at hl 0 rfl) ?_
    refine gm_Lm_classes cx hX d_Lm_make_45 ?_
    refine lv_iload_n hx hb d_Lm_make_48 rfl (lv_at hl 1 rfl) ?_
    refine lv_bipush (v := 8) hx hb d_Lm_make_49 (by decide) ?_
    refine lv_idiv hx hb d_Lm_make_51 (by decide) ?_
    refine sm_12 cx hX hG.1 d_Lm_make_52 (fun f4 ef4 H locs hX => ?_)
    replace hG := hG.2 f4 ef4
    refine lv_aload_n hx hb d_Lm_make_53 rfl (lv_at hl 0 rfl) ?_
    refine gm_Lm_parentOf cx hX d_Lm_make_54 ?_
    refine lv_aload_n hx hb d_Lm_make_57 rfl (lv_at hl 0 rfl) ?_
    refine gm_Lm_classes cx hX d_Lm_make_58 ?_
    refine lv_aload_n hx hb d_Lm_make_61 rfl (lv_at hl 0 rfl) ?_
    refine gm_Lm_above cx hX d_Lm_make_62 ?_
    refine lv_aload_n hx hb d_Lm_make_65 rfl (lv_at hl 0 rfl) ?_
    refine gm_Lm_depth cx hX d_Lm_make_66 ?_
    refine lv_iconst (v := 1) hx hb d_Lm_make_69 (by decide) ?_
    refine lv_isub hx hb d_Lm_make_70 ?_
    refine lm_21 cx hX hG.1 d_Lm_make_71 ?_
    replace hG := hG.2
    refine lv_bipush (v := 100) hx hb d_Lm_make_72 (by decide) ?_
    refine lv_irem hx hb d_Lm_make_74 (by decide) ?_
    refine sm_13 cx hX hG.1 d_Lm_make_75 (fun f5 ef5 H locs hX => ?_)
    replace hG := hG.2 f5 ef5
    refine lv_aload_n hx hb d_Lm_make_76 rfl (lv_at hl 0 rfl) ?_
    refine gm_Lm_interfaceOf cx hX d_Lm_make_77 ?_
    refine lv_aload_n hx hb d_Lm_make_80 rfl (lv_at hl 0 rfl) ?_
    refine gm_Lm_classes cx hX d_Lm_make_81 ?_
    refine lv_aload_n hx hb d_Lm_make_84 rfl (lv_at hl 0 rfl) ?_
    refine gm_Lm_above cx hX d_Lm_make_85 ?_
    refine lv_aload_n hx hb d_Lm_make_88 rfl (lv_at hl 0 rfl) ?_
    refine gm_Lm_depth cx hX d_Lm_make_89 ?_
    refine lv_iconst (v := 1) hx hb d_Lm_make_92 (by decide) ?_
    refine lv_isub hx hb d_Lm_make_93 ?_
    refine lm_21 cx hX hG.1 d_Lm_make_94 ?_
    replace hG := hG.2
    refine lv_bipush (v := 100) hx hb d_Lm_make_95 (by decide) ?_
    refine lv_idiv hx hb d_Lm_make_97 (by decide) ?_
    refine sm_14 cx hX hG.1 d_Lm_make_98 (fun f6 ef6 H locs hX => ?_)
    replace hG := hG.2 f6 ef6
    refine lv_aload_n hx hb d_Lm_make_99 rfl (lv_at hl 0 rfl) ?_
    refine gm_Lm_marks cx hX d_Lm_make_100 ?_
    refine lv_aload_n hx hb d_Lm_make_103 rfl (lv_at hl 0 rfl) ?_
    refine gm_Lm_classes cx hX d_Lm_make_104 ?_
    refine lv_aload_n hx hb d_Lm_make_107 rfl (lv_at hl 0 rfl) ?_
    refine gm_Lm_fileMarks cx hX d_Lm_make_108 ?_
    refine lv_iload_n hx hb d_Lm_make_111 rfl (lv_at hl 1 rfl) ?_
    refine lm_5 cx hX hG.1 d_Lm_make_112 ?_
    replace hG := hG.2
    refine sm_15 cx hX hG.1 d_Lm_make_113 (fun f7 ef7 H locs hX => ?_)
    replace hG := hG.2 f7 ef7
    refine lv_aload_n hx hb d_Lm_make_114 rfl (lv_at hl 0 rfl) ?_
    refine lv_aload_n hx hb d_Lm_make_115 rfl (lv_at hl 0 rfl) ?_
    refine gm_Lm_classes cx hX d_Lm_make_116 ?_
    refine lv_iconst (v := 0) hx hb d_Lm_make_119 (by decide) ?_
    refine ll_callvv cx hA hX (c_Lm_come l D h cI cZ _ _ _ _ hG) (cw_Lm_95 cx.1.2.2.2.2 (ll_hR (by omega) (by decide))) (va_recv cx.2 hX.1 (ci := 3) (q0 := 0) rfl rfl) rfl hl.1 rfl (Nat.le_of_ble_eq_true rfl) d_Lm_make_120 ⟨Nat.zero_le _, Nat.zero_le _⟩ (fun f9 H locs hG hX => ?_)
    refine lv_aload_n hx hb d_Lm_make_123 rfl (lv_at hl 0 rfl) ?_
    refine lv_iconst (v := 2) hx hb d_Lm_make_124 (by decide) ?_
    refine ll_callvv cx hA hX (c_Lm_go l D h cI cZ _ _ _ hG) (cw_Lm_131 cx.1.2.2.2.2 (ll_hR (by omega) (by decide))) (va_recv cx.2 hX.1 (ci := 3) (q0 := 0) rfl rfl) rfl hl.1 rfl (Nat.le_of_ble_eq_true rfl) d_Lm_make_125 ⟨Nat.zero_le _, Nat.zero_le _⟩ (fun f11 H locs hG hX => ?_)
    exact ll_vret cx hr hlk hX hG d_Lm_make_128
  · have hG := hG.2 c1
    refine lv_aload_n hx hb d_Lm_make_9 rfl (lv_at hl 0 rfl) ?_
    refine lv_bipush (v := (-2)) hx hb d_Lm_make_10 (by decide) ?_
    refine lv_iconst (v := 0) hx hb d_Lm_make_12 (by decide) ?_
    refine ll_callvv cx hA hX (c_Lm_end l D h cI cZ _ _ _ _ hG) (cw_Lm_134 cx.1.2.2.2.2 (ll_hR (by omega) (by decide))) (va_recv cx.2 hX.1 (ci := 3) (q0 := 0) rfl rfl) rfl hl.1 rfl (Nat.le_of_ble_eq_true rfl) d_Lm_make_13 ⟨Nat.zero_le _, Nat.zero_le _⟩ (fun f13 H locs hG hX => ?_)
    exact ll_vret cx hr hlk hX hG d_Lm_make_16
def G_Lm_parentAnswers (f : ll_S) (K : ll_S → Prop) : Prop := ((¬ (f 24 0) = (-3 : Int32) → (G_Lm_go f 2 (fun f3 => K f3))) ∧ ((f 24 0) = (-3 : Int32) → (G_Lm_go f 4 (fun f5 => K f5))))
set_option maxHeartbeats 4000000 in
set_option maxRecDepth 100000 in
theorem c_Lm_parentAnswers (l : Launch) (D : va_G) (h : Nat → Nat) (cI cZ : ClassId) (f : ll_S) (K : ll_S → Prop) (hG : G_Lm_parentAnswers f K) : ll_Mv l y_Lm_parentAnswers (Cond.code y_Lm_parentAnswers b_Lm_parentAnswers 1 none :: ll_xt) (ll_rk 1) D [(cI, .int), (cZ, .boolean)] (wd_M h cI cZ) [.ref (h 0)] f K := by
  refine ll_startv (own := "LoaderLabModel") (by decide) rfl (Nat.le_of_ble_eq_true rfl) (fun p e s m below meth c ls cx hr hlk hA hX hl => ?_)
  have hl : lv_has ls 1 [(0, .ref (h 0))] := hl
  obtain ⟨⟨hx, hb, -, -, -⟩, -⟩ := id cx
  unfold G_Lm_parentAnswers at hG
  refine lv_aload_n hx hb d_Lm_parentAnswers_0 rfl (lv_at hl 0 rfl) ?_
  refine gm_Lm_got cx hX d_Lm_parentAnswers_1 ?_
  refine lv_bipush (v := (-3)) hx hb d_Lm_parentAnswers_4 (by decide) ?_
  refine lv_icmp_ne (tgt := 17) hx hb d_Lm_parentAnswers_6 (by decide) (fun c1 => ?_) (fun c1 => ?_)
  · have hG := hG.1 c1
    refine lv_aload_n hx hb d_Lm_parentAnswers_17 rfl (lv_at hl 0 rfl) ?_
    refine lv_iconst (v := 2) hx hb d_Lm_parentAnswers_18 (by decide) ?_
    refine ll_callvv cx hA hX (c_Lm_go l D h cI cZ _ _ _ hG) (cw_Lm_131 cx.1.2.2.2.2 (ll_hR (by omega) (by decide))) (va_recv cx.2 hX.1 (ci := 3) (q0 := 0) rfl rfl) rfl hl.1 rfl (Nat.le_of_ble_eq_true rfl) d_Lm_parentAnswers_19 ⟨Nat.zero_le _, Nat.zero_le _⟩ (fun f3 H locs hG hX => ?_)
    exact ll_vret cx hr hlk hX hG d_Lm_parentAnswers_22
  · have hG := hG.2 c1
    refine lv_aload_n hx hb d_Lm_parentAnswers_9 rfl (lv_at hl 0 rfl) ?_
    refine lv_iconst (v := 4) hx hb d_Lm_parentAnswers_10 (by decide) ?_
    refine ll_callvv cx hA hX (c_Lm_go l D h cI cZ _ _ _ hG) (cw_Lm_131 cx.1.2.2.2.2 (ll_hR (by omega) (by decide))) (va_recv cx.2 hX.1 (ci := 3) (q0 := 0) rfl rfl) rfl hl.1 rfl (Nat.le_of_ble_eq_true rfl) d_Lm_parentAnswers_11 ⟨Nat.zero_le _, Nat.zero_le _⟩ (fun f5 H locs hG hX => ?_)
    refine lv_goto (tgt := 22) hx hb d_Lm_parentAnswers_14 (by decide) ?_
    exact ll_vret cx hr hlk hX hG d_Lm_parentAnswers_22
def G_Lm_resolved (f : ll_S) (a1 : Int32) (a2 : Int32) (K : ll_S → Prop) : Prop := ((¬ (f 24 0) = (-3 : Int32) → ((0 ≤ (f 24 0) → ((¬ a2 = (5 : Int32) → (vp_in (f 24 0) 31 ∧ ((¬ ((f 15 ((f 24 0)).toNatClampNeg) &&& 1) = 0 → (vp_in ((f 23 0) - 1) 41 ∧ (vp_in ((f 23 0) - 1) 41 ∧ ∀ f5, f5 = ll_w f 21 (((f 23 0) - 1)).toNatClampNeg ((f 21 (((f 23 0) - 1)).toNatClampNeg) + (100 * (f 24 0))) → (G_Lm_go f5 8 (fun f7 => K f7))))) ∧ (((f 15 ((f 24 0)).toNatClampNeg) &&& 1) = 0 → (G_Lm_end f (-8) 0 (fun f9 => K f9)))))) ∧ (a2 = (5 : Int32) → (vp_in (f 24 0) 31 ∧ ((((f 15 ((f 24 0)).toNatClampNeg) &&& 3) = 0 → (vp_in ((f 23 0) - 1) 41 ∧ ∀ f11, f11 = ll_w f 21 (((f 23 0) - 1)).toNatClampNeg (f 24 0) → (G_Lm_go f11 7 (fun f13 => K f13)))) ∧ (¬ ((f 15 ((f 24 0)).toNatClampNeg) &&& 3) = 0 → (G_Lm_end f (-8) 0 (fun f15 => K f15)))))))) ∧ (¬ 0 ≤ (f 24 0) → (G_Lm_end f (f 24 0) (f 25 0) (fun f17 => K f17))))) ∧ ((f 24 0) = (-3 : Int32) → (G_Lm_end f (-4) (-3) (fun f19 => K f19))))
set_option maxHeartbeats 4000000 in
set_option maxRecDepth 100000 in
theorem c_Lm_resolved (l : Launch) (D : va_G) (h : Nat → Nat) (cI cZ : ClassId) (f : ll_S) (a1 : Int32) (a2 : Int32) (K : ll_S → Prop) (hG : G_Lm_resolved f a1 a2 K) : ll_Mv l y_Lm_resolved (Cond.code y_Lm_resolved b_Lm_resolved 3 none :: ll_xt) (ll_rk 2) D [(cI, .int), (cZ, .boolean)] (wd_M h cI cZ) [.ref (h 0), .int a1, .int a2] f K := by
  refine ll_startv (own := "LoaderLabModel") (by decide) rfl (Nat.le_of_ble_eq_true rfl) (fun p e s m below meth c ls cx hr hlk hA hX hl => ?_)
  have hl : lv_has ls 3 [(0, .ref (h 0)), (1, .int a1), (2, .int a2)] := hl
  obtain ⟨⟨hx, hb, -, -, -⟩, -⟩ := id cx
  unfold G_Lm_resolved at hG
  refine lv_aload_n hx hb d_Lm_resolved_0 rfl (lv_at hl 0 rfl) ?_
  refine gm_Lm_got cx hX d_Lm_resolved_1 ?_
  refine lv_bipush (v := (-3)) hx hb d_Lm_resolved_4 (by decide) ?_
  refine lv_icmp_ne (tgt := 20) hx hb d_Lm_resolved_6 (by decide) (fun c1 => ?_) (fun c1 => ?_)
  · have hG := hG.1 c1
    refine lv_aload_n hx hb d_Lm_resolved_20 rfl (lv_at hl 0 rfl) ?_
    refine gm_Lm_got cx hX d_Lm_resolved_21 ?_
    refine lv_if_ge (tgt := 42) hx hb d_Lm_resolved_24 (by decide) (fun c2 => ?_) (fun c2 => ?_)
    · have hG := hG.1 c2
      refine lv_iload_n hx hb d_Lm_resolved_42 rfl (lv_at hl 2 rfl) ?_
      refine lv_iconst (v := 5) hx hb d_Lm_resolved_43 (by decide) ?_
      refine lv_icmp_ne (tgt := 95) hx hb d_Lm_resolved_44 (by decide) (fun c3 => ?_) (fun c3 => ?_)
      · have hG := hG.1 c3
        refine lv_aload_n hx hb d_Lm_resolved_95 rfl (lv_at hl 0 rfl) ?_
        refine gm_Lm_marks cx hX d_Lm_resolved_96 ?_
        refine lv_aload_n hx hb d_Lm_resolved_99 rfl (lv_at hl 0 rfl) ?_
        refine gm_Lm_got cx hX d_Lm_resolved_100 ?_
        refine lm_15 cx hX hG.1 d_Lm_resolved_103 ?_
        replace hG := hG.2
        refine lv_iconst (v := 1) hx hb d_Lm_resolved_104 (by decide) ?_
        refine lv_iand hx hb d_Lm_resolved_105 ?_
        refine lv_if_ne (tgt := 119) hx hb d_Lm_resolved_106 (by decide) (fun c4 => ?_) (fun c4 => ?_)
        · have hG := hG.1 c4
          refine lv_aload_n hx hb d_Lm_resolved_119 rfl (lv_at hl 0 rfl) ?_
          refine gm_Lm_above cx hX d_Lm_resolved_120 ?_
          refine lv_aload_n hx hb d_Lm_resolved_123 rfl (lv_at hl 0 rfl) ?_
          refine gm_Lm_depth cx hX d_Lm_resolved_124 ?_
          refine lv_iconst (v := 1) hx hb d_Lm_resolved_127 (by decide) ?_
          refine lv_isub hx hb d_Lm_resolved_128 ?_
          refine lv_dup2_11 hx hb d_Lm_resolved_129 rfl rfl ?_
          refine lm_21 cx hX hG.1 d_Lm_resolved_130 ?_
          replace hG := hG.2
          refine lv_bipush (v := 100) hx hb d_Lm_resolved_131 (by decide) ?_
          refine lv_aload_n hx hb d_Lm_resolved_133 rfl (lv_at hl 0 rfl) ?_
          refine gm_Lm_got cx hX d_Lm_resolved_134 ?_
          refine lv_imul hx hb d_Lm_resolved_137 ?_
          refine lv_iadd hx hb d_Lm_resolved_138 ?_
          refine sm_21 cx hX hG.1 d_Lm_resolved_139 (fun f5 ef5 H locs hX => ?_)
          replace hG := hG.2 f5 ef5
          refine lv_aload_n hx hb d_Lm_resolved_140 rfl (lv_at hl 0 rfl) ?_
          refine lv_bipush (v := 8) hx hb d_Lm_resolved_141 (by decide) ?_
          refine ll_callvv cx hA hX (c_Lm_go l D h cI cZ _ _ _ hG) (cw_Lm_131 cx.1.2.2.2.2 (ll_hR (by omega) (by decide))) (va_recv cx.2 hX.1 (ci := 3) (q0 := 0) rfl rfl) rfl hl.1 rfl (Nat.le_of_ble_eq_true rfl) d_Lm_resolved_143 ⟨Nat.zero_le _, Nat.zero_le _⟩ (fun f7 H locs hG hX => ?_)
          exact ll_vret cx hr hlk hX hG d_Lm_resolved_146
        · have hG := hG.2 c4
          refine lv_aload_n hx hb d_Lm_resolved_109 rfl (lv_at hl 0 rfl) ?_
          refine lv_bipush (v := (-8)) hx hb d_Lm_resolved_110 (by decide) ?_
          refine lv_iconst (v := 0) hx hb d_Lm_resolved_112 (by decide) ?_
          refine ll_callvv cx hA hX (c_Lm_end l D h cI cZ _ _ _ _ hG) (cw_Lm_134 cx.1.2.2.2.2 (ll_hR (by omega) (by decide))) (va_recv cx.2 hX.1 (ci := 3) (q0 := 0) rfl rfl) rfl hl.1 rfl (Nat.le_of_ble_eq_true rfl) d_Lm_resolved_113 ⟨Nat.zero_le _, Nat.zero_le _⟩ (fun f9 H locs hG hX => ?_)
          refine lv_goto (tgt := 146) hx hb d_Lm_resolved_116 (by decide) ?_
          exact ll_vret cx hr hlk hX hG d_Lm_resolved_146
      · have hG := hG.2 c3
        refine lv_aload_n hx hb d_Lm_resolved_47 rfl (lv_at hl 0 rfl) ?_
        refine gm_Lm_marks cx hX d_Lm_resolved_48 ?_
        refine lv_aload_n hx hb d_Lm_resolved_51 rfl (lv_at hl 0 rfl) ?_
        refine gm_Lm_got cx hX d_Lm_resolved_52 ?_
        refine lm_15 cx hX hG.1 d_Lm_resolved_55 ?_
        replace hG := hG.2
        refine lv_iconst (v := 3) hx hb d_Lm_resolved_56 (by decide) ?_
        refine lv_iand hx hb d_Lm_resolved_57 ?_
        refine lv_if_eq (tgt := 71) hx hb d_Lm_resolved_58 (by decide) (fun c10 => ?_) (fun c10 => ?_)
        · have hG := hG.1 c10
          refine lv_aload_n hx hb d_Lm_resolved_71 rfl (lv_at hl 0 rfl) ?_
          refine gm_Lm_above cx hX d_Lm_resolved_72 ?_
          refine lv_aload_n hx hb d_Lm_resolved_75 rfl (lv_at hl 0 rfl) ?_
          refine gm_Lm_depth cx hX d_Lm_resolved_76 ?_
          refine lv_iconst (v := 1) hx hb d_Lm_resolved_79 (by decide) ?_
          refine lv_isub hx hb d_Lm_resolved_80 ?_
          refine lv_aload_n hx hb d_Lm_resolved_81 rfl (lv_at hl 0 rfl) ?_
          refine gm_Lm_got cx hX d_Lm_resolved_82 ?_
          refine sm_21 cx hX hG.1 d_Lm_resolved_85 (fun f11 ef11 H locs hX => ?_)
          replace hG := hG.2 f11 ef11
          refine lv_aload_n hx hb d_Lm_resolved_86 rfl (lv_at hl 0 rfl) ?_
          refine lv_bipush (v := 7) hx hb d_Lm_resolved_87 (by decide) ?_
          refine ll_callvv cx hA hX (c_Lm_go l D h cI cZ _ _ _ hG) (cw_Lm_131 cx.1.2.2.2.2 (ll_hR (by omega) (by decide))) (va_recv cx.2 hX.1 (ci := 3) (q0 := 0) rfl rfl) rfl hl.1 rfl (Nat.le_of_ble_eq_true rfl) d_Lm_resolved_89 ⟨Nat.zero_le _, Nat.zero_le _⟩ (fun f13 H locs hG hX => ?_)
          refine lv_goto (tgt := 146) hx hb d_Lm_resolved_92 (by decide) ?_
          exact ll_vret cx hr hlk hX hG d_Lm_resolved_146
        · have hG := hG.2 c10
          refine lv_aload_n hx hb d_Lm_resolved_61 rfl (lv_at hl 0 rfl) ?_
          refine lv_bipush (v := (-8)) hx hb d_Lm_resolved_62 (by decide) ?_
          refine lv_iconst (v := 0) hx hb d_Lm_resolved_64 (by decide) ?_
          refine ll_callvv cx hA hX (c_Lm_end l D h cI cZ _ _ _ _ hG) (cw_Lm_134 cx.1.2.2.2.2 (ll_hR (by omega) (by decide))) (va_recv cx.2 hX.1 (ci := 3) (q0 := 0) rfl rfl) rfl hl.1 rfl (Nat.le_of_ble_eq_true rfl) d_Lm_resolved_65 ⟨Nat.zero_le _, Nat.zero_le _⟩ (fun f15 H locs hG hX => ?_)
          refine lv_goto (tgt := 146) hx hb d_Lm_resolved_68 (by decide) ?_
          exact ll_vret cx hr hlk hX hG d_Lm_resolved_146
    · have hG := hG.2 c2
      refine lv_aload_n hx hb d_Lm_resolved_27 rfl (lv_at hl 0 rfl) ?_
      refine lv_aload_n hx hb d_Lm_resolved_28 rfl (lv_at hl 0 rfl) ?_
      refine gm_Lm_got cx hX d_Lm_resolved_29 ?_
      refine lv_aload_n hx hb d_Lm_resolved_32 rfl (lv_at hl 0 rfl) ?_
      refine gm_Lm_gotCause cx hX d_Lm_resolved_33 ?_
      refine ll_callvv cx hA hX (c_Lm_end l D h cI cZ _ _ _ _ hG) (cw_Lm_134 cx.1.2.2.2.2 (ll_hR (by omega) (by decide))) (va_recv cx.2 hX.1 (ci := 3) (q0 := 0) rfl rfl) rfl hl.1 rfl (Nat.le_of_ble_eq_true rfl) d_Lm_resolved_36 ⟨Nat.zero_le _, Nat.zero_le _⟩ (fun f17 H locs hG hX => ?_)
      refine lv_goto (tgt := 146) hx hb d_Lm_resolved_39 (by decide) ?_
      exact ll_vret cx hr hlk hX hG d_Lm_resolved_146
  · have hG := hG.2 c1
    refine lv_aload_n hx hb d_Lm_resolved_9 rfl (lv_at hl 0 rfl) ?_
    refine lv_bipush (v := (-4)) hx hb d_Lm_resolved_10 (by decide) ?_
    refine lv_bipush (v := (-3)) hx hb d_Lm_resolved_12 (by decide) ?_
    refine ll_callvv cx hA hX (c_Lm_end l D h cI cZ _ _ _ _ hG) (cw_Lm_134 cx.1.2.2.2.2 (ll_hR (by omega) (by decide))) (va_recv cx.2 hX.1 (ci := 3) (q0 := 0) rfl rfl) rfl hl.1 rfl (Nat.le_of_ble_eq_true rfl) d_Lm_resolved_14 ⟨Nat.zero_le _, Nat.zero_le _⟩ (fun f19 H locs hG hX => ?_)
    refine lv_goto (tgt := 146) hx hb d_Lm_resolved_17 (by decide) ?_
    exact ll_vret cx hr hlk hX hG d_Lm_resolved_146
def G_Lm_toParent (f : ll_S) (a1 : Int32) (a2 : Int32) (K : ll_S → Prop) : Prop := (vp_in a1 5 ∧ ((0 ≤ (f 0 (a1).toNatClampNeg) → (vp_in a1 5 ∧ (G_Lm_ask f (f 0 (a1).toNatClampNeg) a2 1 (fun f3 => K f3)))) ∧ (¬ 0 ≤ (f 0 (a1).toNatClampNeg) → (G_Lm_go f 4 (fun f5 => K f5)))))
set_option maxHeartbeats 4000000 in
set_option maxRecDepth 100000 in
theorem c_Lm_toParent (l : Launch) (D : va_G) (h : Nat → Nat) (cI cZ : ClassId) (f : ll_S) (a1 : Int32) (a2 : Int32) (K : ll_S → Prop) (hG : G_Lm_toParent f a1 a2 K) : ll_Mv l y_Lm_toParent (Cond.code y_Lm_toParent b_Lm_toParent 3 none :: ll_xt) (ll_rk 3) D [(cI, .int), (cZ, .boolean)] (wd_M h cI cZ) [.ref (h 0), .int a1, .int a2] f K := by
  refine ll_startv (own := "LoaderLabModel") (by decide) rfl (Nat.le_of_ble_eq_true rfl) (fun p e s m below meth c ls cx hr hlk hA hX hl => ?_)
  have hl : lv_has ls 3 [(0, .ref (h 0)), (1, .int a1), (2, .int a2)] := hl
  obtain ⟨⟨hx, hb, -, -, -⟩, -⟩ := id cx
  unfold G_Lm_toParent at hG
  refine lv_aload_n hx hb d_Lm_toParent_0 rfl (lv_at hl 0 rfl) ?_
  refine gm_Lm_parents cx hX d_Lm_toParent_1 ?_
  refine lv_iload_n hx hb d_Lm_toParent_4 rfl (lv_at hl 1 rfl) ?_
  refine lm_0 cx hX hG.1 d_Lm_toParent_5 ?_
  replace hG := hG.2
  refine lv_if_ge (tgt := 17) hx hb d_Lm_toParent_6 (by decide) (fun c1 => ?_) (fun c1 => ?_)
  · have hG := hG.1 c1
    refine lv_aload_n hx hb d_Lm_toParent_17 rfl (lv_at hl 0 rfl) ?_
    refine lv_aload_n hx hb d_Lm_toParent_18 rfl (lv_at hl 0 rfl) ?_
    refine gm_Lm_parents cx hX d_Lm_toParent_19 ?_
    refine lv_iload_n hx hb d_Lm_toParent_22 rfl (lv_at hl 1 rfl) ?_
    refine lm_0 cx hX hG.1 d_Lm_toParent_23 ?_
    replace hG := hG.2
    refine lv_iload_n hx hb d_Lm_toParent_24 rfl (lv_at hl 2 rfl) ?_
    refine lv_iconst (v := 1) hx hb d_Lm_toParent_25 (by decide) ?_
    refine ll_callvv cx hA hX (c_Lm_ask l D h cI cZ _ _ _ _ _ hG) (cw_Lm_137 cx.1.2.2.2.2 (ll_hR (by omega) (by decide))) (va_recv cx.2 hX.1 (ci := 3) (q0 := 0) rfl rfl) rfl hl.1 rfl (Nat.le_of_ble_eq_true rfl) d_Lm_toParent_26 ⟨Nat.zero_le _, Nat.zero_le _⟩ (fun f3 H locs hG hX => ?_)
    exact ll_vret cx hr hlk hX hG d_Lm_toParent_29
  · have hG := hG.2 c1
    refine lv_aload_n hx hb d_Lm_toParent_9 rfl (lv_at hl 0 rfl) ?_
    refine lv_iconst (v := 4) hx hb d_Lm_toParent_10 (by decide) ?_
    refine ll_callvv cx hA hX (c_Lm_go l D h cI cZ _ _ _ hG) (cw_Lm_131 cx.1.2.2.2.2 (ll_hR (by omega) (by decide))) (va_recv cx.2 hX.1 (ci := 3) (q0 := 0) rfl rfl) rfl hl.1 rfl (Nat.le_of_ble_eq_true rfl) d_Lm_toParent_11 ⟨Nat.zero_le _, Nat.zero_le _⟩ (fun f5 H locs hG hX => ?_)
    refine lv_goto (tgt := 29) hx hb d_Lm_toParent_14 (by decide) ?_
    exact ll_vret cx hr hlk hX hG d_Lm_toParent_29
def G_Lm_start (f : ll_S) (a1 : Int32) (K : ll_S → Prop) : Prop := (vp_in a1 40 ∧ (((f 6 (a1).toNatClampNeg) = 0 → (G_Lm_toParent f (a1 / 8) (a1 - a1 / 8 * 8) (fun f3 => K f3))) ∧ (¬ (f 6 (a1).toNatClampNeg) = 0 → (((f 6 (a1).toNatClampNeg) = 1 → (vp_in a1 40 ∧ (((f 1 (a1).toNatClampNeg) = 0 → (vp_in (a1 / 8) 5 ∧ ((0 ≤ (f 0 ((a1 / 8)).toNatClampNeg) → (vp_in (a1 / 8) 5 ∧ (G_Lm_ask f (f 0 ((a1 / 8)).toNatClampNeg) (a1 - a1 / 8 * 8) 2 (fun f8 => K f8)))) ∧ (¬ 0 ≤ (f 0 ((a1 / 8)).toNatClampNeg) → (G_Lm_end f (-3) 0 (fun f10 => K f10)))))) ∧ (¬ (f 1 (a1).toNatClampNeg) = 0 → (G_Lm_go f 4 (fun f12 => K f12)))))) ∧ (¬ (f 6 (a1).toNatClampNeg) = 1 → (((f 6 (a1).toNatClampNeg) = 2 → (vp_in a1 40 ∧ (G_Lm_ask f (f 7 (a1).toNatClampNeg) (a1 - a1 / 8 * 8) 2 (fun f15 => K f15)))) ∧ (¬ (f 6 (a1).toNatClampNeg) = 2 → (((f 6 (a1).toNatClampNeg) = 3 → (vp_in a1 40 ∧ (G_Lm_ask f (a1 / 8) (f 7 (a1).toNatClampNeg) 2 (fun f18 => K f18)))) ∧ (¬ (f 6 (a1).toNatClampNeg) = 3 → (((f 6 (a1).toNatClampNeg) = 4 → (G_Lm_end f (-4) 0 (fun f21 => K f21))) ∧ (¬ (f 6 (a1).toNatClampNeg) = 4 → (((f 6 (a1).toNatClampNeg) = 5 → (G_Lm_end f (-11) 0 (fun f24 => K f24))) ∧ (¬ (f 6 (a1).toNatClampNeg) = 5 → (vp_in a1 40 ∧ (G_Lm_ask f (a1 / 8) (f 7 (a1).toNatClampNeg) 3 (fun f26 => K f26))))))))))))))))
set_option maxHeartbeats 4000000 in
set_option maxRecDepth 100000 in
theorem c_Lm_start (l : Launch) (D : va_G) (h : Nat → Nat) (cI cZ : ClassId) (f : ll_S) (a1 : Int32) (K : ll_S → Prop) (hG : G_Lm_start f a1 K) : ll_Mv l y_Lm_start (Cond.code y_Lm_start b_Lm_start 4 none :: ll_xt) (ll_rk 4) D [(cI, .int), (cZ, .boolean)] (wd_M h cI cZ) [.ref (h 0), .int a1] f K := by
  refine ll_startv (own := "LoaderLabModel") (by decide) rfl (Nat.le_of_ble_eq_true rfl) (fun p e s m below meth c ls cx hr hlk hA hX hl => ?_)
  have hl : lv_has ls 4 [(0, .ref (h 0)), (1, .int a1)] := hl
  obtain ⟨⟨hx, hb, -, -, -⟩, -⟩ := id cx
  unfold G_Lm_start at hG
  refine lv_iload_n hx hb d_Lm_start_0 rfl (lv_at hl 1 rfl) ?_
  refine lv_bipush (v := 8) hx hb d_Lm_start_1 (by decide) ?_
  refine lv_idiv hx hb d_Lm_start_3 (by decide) ?_
  refine lv_istore_n (lv' := [(2, .int (a1 / 8)), (0, .ref (h 0)), (1, .int a1)]) hx hb d_Lm_start_4 rfl hl (by decide) rfl (fun ls hl => ?_)
  refine lv_iload_n hx hb d_Lm_start_5 rfl (lv_at hl 2 rfl) ?_
  refine lv_bipush (v := 8) hx hb d_Lm_start_6 (by decide) ?_
  refine lv_irem hx hb d_Lm_start_8 (by decide) ?_
  refine lv_istore_n (lv' := [(3, .int (a1 - a1 / 8 * 8)), (2, .int (a1 / 8)), (0, .ref (h 0)), (1, .int a1)]) hx hb d_Lm_start_9 rfl hl (by decide) rfl (fun ls hl => ?_)
  refine lv_aload_n hx hb d_Lm_start_10 rfl (lv_at hl 2 rfl) ?_
  refine gm_Lm_way cx hX d_Lm_start_11 ?_
  refine lv_iload_n hx hb d_Lm_start_14 rfl (lv_at hl 3 rfl) ?_
  refine lm_6 cx hX hG.1 d_Lm_start_15 ?_
  replace hG := hG.2
  by_cases c1 : (f 6 (a1).toNatClampNeg) = 0
  · refine lv_tableIn (tgt := 56) hx hb d_Lm_start_16 (by rw [c1]; decide) (by rw [c1]; decide) (by rw [c1]; rfl) (by decide) ?_
    have hG := hG.1 c1
    refine lv_aload_n hx hb d_Lm_start_56 rfl (lv_at hl 2 rfl) ?_
    refine lv_iload_n hx hb d_Lm_start_57 rfl (lv_at hl 1 rfl) ?_
    refine lv_iload_n hx hb d_Lm_start_58 rfl (lv_at hl 0 rfl) ?_
    refine ll_callvv cx hA hX (c_Lm_toParent l D h cI cZ _ _ _ _ hG) (cw_Lm_128 cx.1.2.2.2.2 (ll_hR (by omega) (by decide))) (va_recv cx.2 hX.1 (ci := 3) (q0 := 0) rfl rfl) rfl hl.1 rfl (Nat.le_of_ble_eq_true rfl) d_Lm_start_59 ⟨Nat.zero_le _, Nat.zero_le _⟩ (fun f3 H locs hG hX => ?_)
    refine lv_goto (tgt := 178) hx hb d_Lm_start_62 (by decide) ?_
    exact ll_vret cx hr hlk hX hG d_Lm_start_178
  replace hG := hG.2 c1
  by_cases c4 : (f 6 (a1).toNatClampNeg) = 1
  · refine lv_tableIn (tgt := 65) hx hb d_Lm_start_16 (by rw [c4]; decide) (by rw [c4]; decide) (by rw [c4]; rfl) (by decide) ?_
    have hG := hG.1 c4
    refine lv_aload_n hx hb d_Lm_start_65 rfl (lv_at hl 2 rfl) ?_
    refine gm_Lm_hasFile cx hX d_Lm_start_66 ?_
    refine lv_iload_n hx hb d_Lm_start_69 rfl (lv_at hl 3 rfl) ?_
    refine lm_1 cx hX hG.1 d_Lm_start_70 ?_
    replace hG := hG.2
    refine lv_if_eq (tgt := 82) hx hb d_Lm_start_71 (by decide) (fun c5 => ?_) (fun c5 => ?_)
    · have hG := hG.1 c5
      refine lv_aload_n hx hb d_Lm_start_82 rfl (lv_at hl 2 rfl) ?_
      refine gm_Lm_parents cx hX d_Lm_start_83 ?_
      refine lv_iload_n hx hb d_Lm_start_86 rfl (lv_at hl 1 rfl) ?_
      refine lm_0 cx hX hG.1 d_Lm_start_87 ?_
      replace hG := hG.2
      refine lv_if_ge (tgt := 101) hx hb d_Lm_start_88 (by decide) (fun c6 => ?_) (fun c6 => ?_)
      · have hG := hG.1 c6
        refine lv_aload_n hx hb d_Lm_start_101 rfl (lv_at hl 2 rfl) ?_
        refine lv_aload_n hx hb d_Lm_start_102 rfl (lv_at hl 2 rfl) ?_
        refine gm_Lm_parents cx hX d_Lm_start_103 ?_
        refine lv_iload_n hx hb d_Lm_start_106 rfl (lv_at hl 1 rfl) ?_
        refine lm_0 cx hX hG.1 d_Lm_start_107 ?_
        replace hG := hG.2
        refine lv_iload_n hx hb d_Lm_start_108 rfl (lv_at hl 0 rfl) ?_
        refine lv_iconst (v := 2) hx hb d_Lm_start_109 (by decide) ?_
        refine ll_callvv cx hA hX (c_Lm_ask l D h cI cZ _ _ _ _ _ hG) (cw_Lm_137 cx.1.2.2.2.2 (ll_hR (by omega) (by decide))) (va_recv cx.2 hX.1 (ci := 3) (q0 := 0) rfl rfl) rfl hl.1 rfl (Nat.le_of_ble_eq_true rfl) d_Lm_start_110 ⟨Nat.zero_le _, Nat.zero_le _⟩ (fun f8 H locs hG hX => ?_)
        refine lv_goto (tgt := 178) hx hb d_Lm_start_113 (by decide) ?_
        exact ll_vret cx hr hlk hX hG d_Lm_start_178
      · have hG := hG.2 c6
        refine lv_aload_n hx hb d_Lm_start_91 rfl (lv_at hl 2 rfl) ?_
        refine lv_bipush (v := (-3)) hx hb d_Lm_start_92 (by decide) ?_
        refine lv_iconst (v := 0) hx hb d_Lm_start_94 (by decide) ?_
        refine ll_callvv cx hA hX (c_Lm_end l D h cI cZ _ _ _ _ hG) (cw_Lm_134 cx.1.2.2.2.2 (ll_hR (by omega) (by decide))) (va_recv cx.2 hX.1 (ci := 3) (q0 := 0) rfl rfl) rfl hl.1 rfl (Nat.le_of_ble_eq_true rfl) d_Lm_start_95 ⟨Nat.zero_le _, Nat.zero_le _⟩ (fun f10 H locs hG hX => ?_)
        refine lv_goto (tgt := 178) hx hb d_Lm_start_98 (by decide) ?_
        exact ll_vret cx hr hlk hX hG d_Lm_start_178
    · have hG := hG.2 c5
      refine lv_aload_n hx hb d_Lm_start_74 rfl (lv_at hl 2 rfl) ?_
      refine lv_iconst (v := 4) hx hb d_Lm_start_75 (by decide) ?_
      refine ll_callvv cx hA hX (c_Lm_go l D h cI cZ _ _ _ hG) (cw_Lm_131 cx.1.2.2.2.2 (ll_hR (by omega) (by decide))) (va_recv cx.2 hX.1 (ci := 3) (q0 := 0) rfl rfl) rfl hl.1 rfl (Nat.le_of_ble_eq_true rfl) d_Lm_start_76 ⟨Nat.zero_le _, Nat.zero_le _⟩ (fun f12 H locs hG hX => ?_)
      refine lv_goto (tgt := 178) hx hb d_Lm_start_79 (by decide) ?_
      exact ll_vret cx hr hlk hX hG d_Lm_start_178
  replace hG := hG.2 c4
  by_cases c13 : (f 6 (a1).toNatClampNeg) = 2
  · refine lv_tableIn (tgt := 116) hx hb d_Lm_start_16 (by rw [c13]; decide) (by rw [c13]; decide) (by rw [c13]; rfl) (by decide) ?_
    have hG := hG.1 c13
    refine lv_aload_n hx hb d_Lm_start_116 rfl (lv_at hl 2 rfl) ?_
    refine lv_aload_n hx hb d_Lm_start_117 rfl (lv_at hl 2 rfl) ?_
    refine gm_Lm_number cx hX d_Lm_start_118 ?_
    refine lv_iload_n hx hb d_Lm_start_121 rfl (lv_at hl 3 rfl) ?_
    refine lm_7 cx hX hG.1 d_Lm_start_122 ?_
    replace hG := hG.2
    refine lv_iload_n hx hb d_Lm_start_123 rfl (lv_at hl 0 rfl) ?_
    refine lv_iconst (v := 2) hx hb d_Lm_start_124 (by decide) ?_
    refine ll_callvv cx hA hX (c_Lm_ask l D h cI cZ _ _ _ _ _ hG) (cw_Lm_137 cx.1.2.2.2.2 (ll_hR (by omega) (by decide))) (va_recv cx.2 hX.1 (ci := 3) (q0 := 0) rfl rfl) rfl hl.1 rfl (Nat.le_of_ble_eq_true rfl) d_Lm_start_125 ⟨Nat.zero_le _, Nat.zero_le _⟩ (fun f15 H locs hG hX => ?_)
    refine lv_goto (tgt := 178) hx hb d_Lm_start_128 (by decide) ?_
    exact ll_vret cx hr hlk hX hG d_Lm_start_178
  replace hG := hG.2 c13
  by_cases c16 : (f 6 (a1).toNatClampNeg) = 3
  · refine lv_tableIn (tgt := 131) hx hb d_Lm_start_16 (by rw [c16]; decide) (by rw [c16]; decide) (by rw [c16]; rfl) (by decide) ?_
    have hG := hG.1 c16
    refine lv_aload_n hx hb d_Lm_start_131 rfl (lv_at hl 2 rfl) ?_
    refine lv_iload_n hx hb d_Lm_start_132 rfl (lv_at hl 1 rfl) ?_
    refine lv_aload_n hx hb d_Lm_start_133 rfl (lv_at hl 2 rfl) ?_
    refine gm_Lm_number cx hX d_Lm_start_134 ?_
    refine lv_iload_n hx hb d_Lm_start_137 rfl (lv_at hl 3 rfl) ?_
    refine lm_7 cx hX hG.1 d_Lm_start_138 ?_
    replace hG := hG.2
    refine lv_iconst (v := 2) hx hb d_Lm_start_139 (by decide) ?_
    refine ll_callvv cx hA hX (c_Lm_ask l D h cI cZ _ _ _ _ _ hG) (cw_Lm_137 cx.1.2.2.2.2 (ll_hR (by omega) (by decide))) (va_recv cx.2 hX.1 (ci := 3) (q0 := 0) rfl rfl) rfl hl.1 rfl (Nat.le_of_ble_eq_true rfl) d_Lm_start_140 ⟨Nat.zero_le _, Nat.zero_le _⟩ (fun f18 H locs hG hX => ?_)
    refine lv_goto (tgt := 178) hx hb d_Lm_start_143 (by decide) ?_
    exact ll_vret cx hr hlk hX hG d_Lm_start_178
  replace hG := hG.2 c16
  by_cases c19 : (f 6 (a1).toNatClampNeg) = 4
  · refine lv_tableIn (tgt := 146) hx hb d_Lm_start_16 (by rw [c19]; decide) (by rw [c19]; decide) (by rw [c19]; rfl) (by decide) ?_
    have hG := hG.1 c19
    refine lv_aload_n hx hb d_Lm_start_146 rfl (lv_at hl 2 rfl) ?_
    refine lv_bipush (v := (-4)) hx hb d_Lm_start_147 (by decide) ?_
    refine lv_iconst (v := 0) hx hb d_Lm_start_149 (by decide) ?_
    refine ll_callvv cx hA hX (c_Lm_end l D h cI cZ _ _ _ _ hG) (cw_Lm_134 cx.1.2.2.2.2 (ll_hR (by omega) (by decide))) (va_recv cx.2 hX.1 (ci := 3) (q0 := 0) rfl rfl) rfl hl.1 rfl (Nat.le_of_ble_eq_true rfl) d_Lm_start_150 ⟨Nat.zero_le _, Nat.zero_le _⟩ (fun f21 H locs hG hX => ?_)
    refine lv_goto (tgt := 178) hx hb d_Lm_start_153 (by decide) ?_
    exact ll_vret cx hr hlk hX hG d_Lm_start_178
  replace hG := hG.2 c19
  by_cases c22 : (f 6 (a1).toNatClampNeg) = 5
  · refine lv_tableIn (tgt := 156) hx hb d_Lm_start_16 (by rw [c22]; decide) (by rw [c22]; decide) (by rw [c22]; rfl) (by decide) ?_
    have hG := hG.1 c22
    refine lv_aload_n hx hb d_Lm_start_156 rfl (lv_at hl 2 rfl) ?_
    refine lv_bipush (v := (-11)) hx hb d_Lm_start_157 (by decide) ?_
    refine lv_iconst (v := 0) hx hb d_Lm_start_159 (by decide) ?_
    refine ll_callvv cx hA hX (c_Lm_end l D h cI cZ _ _ _ _ hG) (cw_Lm_134 cx.1.2.2.2.2 (ll_hR (by omega) (by decide))) (va_recv cx.2 hX.1 (ci := 3) (q0 := 0) rfl rfl) rfl hl.1 rfl (Nat.le_of_ble_eq_true rfl) d_Lm_start_160 ⟨Nat.zero_le _, Nat.zero_le _⟩ (fun f24 H locs hG hX => ?_)
    refine lv_goto (tgt := 178) hx hb d_Lm_start_163 (by decide) ?_
    exact ll_vret cx hr hlk hX hG d_Lm_start_178
  replace hG := hG.2 c22
  refine lv_tableOut (tgt := 166) hx hb d_Lm_start_16 (by have := lv_neT c1 (a := 0) (by decide); have := lv_neT c4 (a := 1) (by decide); have := lv_neT c13 (a := 2) (by decide); have := lv_neT c16 (a := 3) (by decide); have := lv_neT c19 (a := 4) (by decide); have := lv_neT c22 (a := 5) (by decide); omega) (by decide) ?_
  refine lv_aload_n hx hb d_Lm_start_166 rfl (lv_at hl 2 rfl) ?_
  refine lv_iload_n hx hb d_Lm_start_167 rfl (lv_at hl 1 rfl) ?_
  refine lv_aload_n hx hb d_Lm_start_168 rfl (lv_at hl 2 rfl) ?_
  refine gm_Lm_number cx hX d_Lm_start_169 ?_
  refine lv_iload_n hx hb d_Lm_start_172 rfl (lv_at hl 3 rfl) ?_
  refine lm_7 cx hX hG.1 d_Lm_start_173 ?_
  replace hG := hG.2
  refine lv_iconst (v := 3) hx hb d_Lm_start_174 (by decide) ?_
  refine ll_callvv cx hA hX (c_Lm_ask l D h cI cZ _ _ _ _ _ hG) (cw_Lm_137 cx.1.2.2.2.2 (ll_hR (by omega) (by decide))) (va_recv cx.2 hX.1 (ci := 3) (q0 := 0) rfl rfl) rfl hl.1 rfl (Nat.le_of_ble_eq_true rfl) d_Lm_start_175 ⟨Nat.zero_le _, Nat.zero_le _⟩ (fun f26 H locs hG hX => ?_)
  exact ll_vret cx hr hlk hX hG d_Lm_start_178
def G_Lm_unused (f : ll_S) (a1 : Int32) (K : ll_S → Prop) : Prop := ((0 ≤ (f 24 0) → (G_Lm_toParent f (a1 / 8) (a1 - a1 / 8 * 8) (fun f3 => K f3))) ∧ (¬ 0 ≤ (f 24 0) → (G_Lm_end f (f 24 0) (f 25 0) (fun f5 => K f5))))
set_option maxHeartbeats 4000000 in
set_option maxRecDepth 100000 in
theorem c_Lm_unused (l : Launch) (D : va_G) (h : Nat → Nat) (cI cZ : ClassId) (f : ll_S) (a1 : Int32) (K : ll_S → Prop) (hG : G_Lm_unused f a1 K) : ll_Mv l y_Lm_unused (Cond.code y_Lm_unused b_Lm_unused 2 none :: ll_xt) (ll_rk 4) D [(cI, .int), (cZ, .boolean)] (wd_M h cI cZ) [.ref (h 0), .int a1] f K := by
  refine ll_startv (own := "LoaderLabModel") (by decide) rfl (Nat.le_of_ble_eq_true rfl) (fun p e s m below meth c ls cx hr hlk hA hX hl => ?_)
  have hl : lv_has ls 2 [(0, .ref (h 0)), (1, .int a1)] := hl
  obtain ⟨⟨hx, hb, -, -, -⟩, -⟩ := id cx
  unfold G_Lm_unused at hG
  refine lv_aload_n hx hb d_Lm_unused_0 rfl (lv_at hl 0 rfl) ?_
  refine gm_Lm_got cx hX d_Lm_unused_1 ?_
  refine lv_if_ge (tgt := 22) hx hb d_Lm_unused_4 (by decide) (fun c1 => ?_) (fun c1 => ?_)
  · have hG := hG.1 c1
    refine lv_aload_n hx hb d_Lm_unused_22 rfl (lv_at hl 0 rfl) ?_
    refine lv_iload_n hx hb d_Lm_unused_23 rfl (lv_at hl 1 rfl) ?_
    refine lv_bipush (v := 8) hx hb d_Lm_unused_24 (by decide) ?_
    refine lv_idiv hx hb d_Lm_unused_26 (by decide) ?_
    refine lv_iload_n hx hb d_Lm_unused_27 rfl (lv_at hl 1 rfl) ?_
    refine lv_bipush (v := 8) hx hb d_Lm_unused_28 (by decide) ?_
    refine lv_irem hx hb d_Lm_unused_30 (by decide) ?_
    refine ll_callvv cx hA hX (c_Lm_toParent l D h cI cZ _ _ _ _ hG) (cw_Lm_128 cx.1.2.2.2.2 (ll_hR (by omega) (by decide))) (va_recv cx.2 hX.1 (ci := 3) (q0 := 0) rfl rfl) rfl hl.1 rfl (Nat.le_of_ble_eq_true rfl) d_Lm_unused_31 ⟨Nat.zero_le _, Nat.zero_le _⟩ (fun f3 H locs hG hX => ?_)
    exact ll_vret cx hr hlk hX hG d_Lm_unused_34
  · have hG := hG.2 c1
    refine lv_aload_n hx hb d_Lm_unused_7 rfl (lv_at hl 0 rfl) ?_
    refine lv_aload_n hx hb d_Lm_unused_8 rfl (lv_at hl 0 rfl) ?_
    refine gm_Lm_got cx hX d_Lm_unused_9 ?_
    refine lv_aload_n hx hb d_Lm_unused_12 rfl (lv_at hl 0 rfl) ?_
    refine gm_Lm_gotCause cx hX d_Lm_unused_13 ?_
    refine ll_callvv cx hA hX (c_Lm_end l D h cI cZ _ _ _ _ hG) (cw_Lm_134 cx.1.2.2.2.2 (ll_hR (by omega) (by decide))) (va_recv cx.2 hX.1 (ci := 3) (q0 := 0) rfl rfl) rfl hl.1 rfl (Nat.le_of_ble_eq_true rfl) d_Lm_unused_16 ⟨Nat.zero_le _, Nat.zero_le _⟩ (fun f5 H locs hG hX => ?_)
    refine lv_goto (tgt := 34) hx hb d_Lm_unused_19 (by decide) ?_
    exact ll_vret cx hr hlk hX hG d_Lm_unused_34
def G_Lm_run_L (K : ll_S → Prop) : Nat → Nat → ll_S → Prop
  | 0, _, _ => False
  | k + 1, _, f => (((f 23 0) ≤ 0 → K f) ∧ (¬ (f 23 0) ≤ 0 → (vp_in ((f 23 0) - 1) 41 ∧ (vp_in ((f 23 0) - 1) 41 ∧ ((¬ (f 20 (((f 23 0) - 1)).toNatClampNeg) = 0 → ((¬ (f 20 (((f 23 0) - 1)).toNatClampNeg) = (1 : Int32) → ((¬ (f 20 (((f 23 0) - 1)).toNatClampNeg) = (2 : Int32) → ((¬ (f 20 (((f 23 0) - 1)).toNatClampNeg) = (3 : Int32) → ((¬ (f 20 (((f 23 0) - 1)).toNatClampNeg) = (4 : Int32) → (((f 20 (((f 23 0) - 1)).toNatClampNeg) = (5 : Int32) → (G_Lm_resolved f (f 19 (((f 23 0) - 1)).toNatClampNeg) (f 20 (((f 23 0) - 1)).toNatClampNeg) (fun f9 => (G_Lm_run_L K k 0  f9)))) ∧ (¬ (f 20 (((f 23 0) - 1)).toNatClampNeg) = (5 : Int32) → ((¬ (f 20 (((f 23 0) - 1)).toNatClampNeg) = (6 : Int32) → ((¬ (f 20 (((f 23 0) - 1)).toNatClampNeg) = (7 : Int32) → (G_Lm_make f (f 19 (((f 23 0) - 1)).toNatClampNeg) (fun f13 => (G_Lm_run_L K k 0  f13)))) ∧ ((f 20 (((f 23 0) - 1)).toNatClampNeg) = (7 : Int32) → (vp_in (f 19 (((f 23 0) - 1)).toNatClampNeg) 40 ∧ (G_Lm_askFor f (f 19 (((f 23 0) - 1)).toNatClampNeg) (f 4 ((f 19 (((f 23 0) - 1)).toNatClampNeg)).toNatClampNeg) 6 (fun f15 => (G_Lm_run_L K k 0  f15))))))) ∧ ((f 20 (((f 23 0) - 1)).toNatClampNeg) = (6 : Int32) → (G_Lm_resolved f (f 19 (((f 23 0) - 1)).toNatClampNeg) (f 20 (((f 23 0) - 1)).toNatClampNeg) (fun f17 => (G_Lm_run_L K k 0  f17)))))))) ∧ ((f 20 (((f 23 0) - 1)).toNatClampNeg) = (4 : Int32) → (G_Lm_define f (f 19 (((f 23 0) - 1)).toNatClampNeg) (fun f19 => (G_Lm_run_L K k 0  f19)))))) ∧ ((f 20 (((f 23 0) - 1)).toNatClampNeg) = (3 : Int32) → (G_Lm_unused f (f 19 (((f 23 0) - 1)).toNatClampNeg) (fun f21 => (G_Lm_run_L K k 0  f21)))))) ∧ ((f 20 (((f 23 0) - 1)).toNatClampNeg) = (2 : Int32) → (G_Lm_answered f (f 19 (((f 23 0) - 1)).toNatClampNeg) (fun f23 => (G_Lm_run_L K k 0  f23)))))) ∧ ((f 20 (((f 23 0) - 1)).toNatClampNeg) = (1 : Int32) → (G_Lm_parentAnswers f  (fun f25 => (G_Lm_run_L K k 0  f25)))))) ∧ ((f 20 (((f 23 0) - 1)).toNatClampNeg) = 0 → (G_Lm_start f (f 19 (((f 23 0) - 1)).toNatClampNeg) (fun f27 => (G_Lm_run_L K k 0  f27)))))))))
def G_Lm_run (f : ll_S) (K : ll_S → Prop) : Prop := (∃ k, G_Lm_run_L K k 0  f)
set_option maxHeartbeats 4000000 in
set_option maxRecDepth 100000 in
theorem w_Lm_run (l : Launch) {p : Program} {e : Env} {s : State} {m : MethodId} {args : Array Value} {below : List Frame} {meth : Method} {c : Code} {D : va_G} {h : Nat → Nat} {cI cZ : ClassId} {f0 : ll_S} {K : ll_S → Prop} (cx : ll_C p m c b_Lm_run 3 s args "LoaderLabModel" D [(cI, .int), (cZ, .boolean)]) (hr : meth.sig.returnType = none) (hlk : meth.locks = false) (hA : ∀ q, s.heap.size ≤ q → va_A (wd_M h cI cZ f0) s.heap.size q) : ∀ (k : Nat), (∀ (f : ll_S) (H : Heap) (locs : List Loc) (ls : Array Slot), G_Lm_run_L K k 0 f → ll_X D (wd_M h cI cZ) (va_A (wd_M h cI cZ f0) s.heap.size) s.heap H locs f → lv_has ls 3 [(0, .ref (h 0))] → W p l e (ll_rk 5) s m args below meth c H locs 0 0 (ll_Qv below args s D [(cI, .int), (cZ, .boolean)] (wd_M h cI cZ) f0 K) (F0 m 0 ls [])) := by
  obtain ⟨⟨hx, hb, -, -, -⟩, -⟩ := id cx
  intro k
  induction k with
  | zero => exact fun _ _ _ _ hG => hG.elim
  | succ k ih =>
    · intro f H locs ls hG hX hl
      rw [G_Lm_run_L] at hG
      refine lv_aload_n hx hb d_Lm_run_0 rfl (lv_at hl 0 rfl) ?_
      refine gm_Lm_depth cx hX d_Lm_run_1 ?_
      refine lv_if_le (tgt := 144) hx hb d_Lm_run_4 (by decide) (fun c1 => ?_) (fun c1 => ?_)
      · have hG := hG.1 c1
        exact ll_vret cx hr hlk hX hG d_Lm_run_144
      · have hG := hG.2 c1
        refine lv_aload_n hx hb d_Lm_run_7 rfl (lv_at hl 0 rfl) ?_
        refine gm_Lm_at cx hX d_Lm_run_8 ?_
        refine lv_aload_n hx hb d_Lm_run_11 rfl (lv_at hl 0 rfl) ?_
        refine gm_Lm_depth cx hX d_Lm_run_12 ?_
        refine lv_iconst (v := 1) hx hb d_Lm_run_15 (by decide) ?_
        refine lv_isub hx hb d_Lm_run_16 ?_
        refine lm_19 cx hX hG.1 d_Lm_run_17 ?_
        replace hG := hG.2
        refine lv_istore_n (lv' := [(1, .int (f 19 (((f 23 0) - 1)).toNatClampNeg)), (0, .ref (h 0))]) hx hb d_Lm_run_18 rfl hl (by decide) rfl (fun ls hl => ?_)
        refine lv_aload_n hx hb d_Lm_run_19 rfl (lv_at hl 1 rfl) ?_
        refine gm_Lm_step cx hX d_Lm_run_20 ?_
        refine lv_aload_n hx hb d_Lm_run_23 rfl (lv_at hl 1 rfl) ?_
        refine gm_Lm_depth cx hX d_Lm_run_24 ?_
        refine lv_iconst (v := 1) hx hb d_Lm_run_27 (by decide) ?_
        refine lv_isub hx hb d_Lm_run_28 ?_
        refine lm_20 cx hX hG.1 d_Lm_run_29 ?_
        replace hG := hG.2
        refine lv_istore_n (lv' := [(2, .int (f 20 (((f 23 0) - 1)).toNatClampNeg)), (1, .int (f 19 (((f 23 0) - 1)).toNatClampNeg)), (0, .ref (h 0))]) hx hb d_Lm_run_30 rfl hl (by decide) rfl (fun ls hl => ?_)
        refine lv_iload_n hx hb d_Lm_run_31 rfl (lv_at hl 0 rfl) ?_
        refine lv_if_ne (tgt := 43) hx hb d_Lm_run_32 (by decide) (fun c2 => ?_) (fun c2 => ?_)
        · have hG := hG.1 c2
          refine lv_iload_n hx hb d_Lm_run_43 rfl (lv_at hl 0 rfl) ?_
          refine lv_iconst (v := 1) hx hb d_Lm_run_44 (by decide) ?_
          refine lv_icmp_ne (tgt := 55) hx hb d_Lm_run_45 (by decide) (fun c3 => ?_) (fun c3 => ?_)
          · have hG := hG.1 c3
            refine lv_iload_n hx hb d_Lm_run_55 rfl (lv_at hl 0 rfl) ?_
            refine lv_iconst (v := 2) hx hb d_Lm_run_56 (by decide) ?_
            refine lv_icmp_ne (tgt := 68) hx hb d_Lm_run_57 (by decide) (fun c4 => ?_) (fun c4 => ?_)
            · have hG := hG.1 c4
              refine lv_iload_n hx hb d_Lm_run_68 rfl (lv_at hl 0 rfl) ?_
              refine lv_iconst (v := 3) hx hb d_Lm_run_69 (by decide) ?_
              refine lv_icmp_ne (tgt := 81) hx hb d_Lm_run_70 (by decide) (fun c5 => ?_) (fun c5 => ?_)
              · have hG := hG.1 c5
                refine lv_iload_n hx hb d_Lm_run_81 rfl (lv_at hl 0 rfl) ?_
                refine lv_iconst (v := 4) hx hb d_Lm_run_82 (by decide) ?_
                refine lv_icmp_ne (tgt := 94) hx hb d_Lm_run_83 (by decide) (fun c6 => ?_) (fun c6 => ?_)
                · have hG := hG.1 c6
                  refine lv_iload_n hx hb d_Lm_run_94 rfl (lv_at hl 0 rfl) ?_
                  refine lv_iconst (v := 5) hx hb d_Lm_run_95 (by decide) ?_
                  refine lv_icmp_eq (tgt := 105) hx hb d_Lm_run_96 (by decide) (fun c7 => ?_) (fun c7 => ?_)
                  · have hG := hG.1 c7
                    refine lv_aload_n hx hb d_Lm_run_105 rfl (lv_at hl 2 rfl) ?_
                    refine lv_iload_n hx hb d_Lm_run_106 rfl (lv_at hl 1 rfl) ?_
                    refine lv_iload_n hx hb d_Lm_run_107 rfl (lv_at hl 0 rfl) ?_
                    refine ll_callvv cx hA hX (c_Lm_resolved l D h cI cZ _ _ _ _ hG) (cw_Lm_118 cx.1.2.2.2.2 (ll_hR (by omega) (by decide))) (va_recv cx.2 hX.1 (ci := 3) (q0 := 0) rfl rfl) rfl hl.1 rfl (Nat.le_of_ble_eq_true rfl) d_Lm_run_108 ⟨Nat.zero_le _, Nat.zero_le _⟩ (fun f9 H locs hG hX => ?_)
                    refine lv_goto (tgt := 141) hx hb d_Lm_run_111 (by decide) ?_
                    refine lv_goto (tgt := 0) hx hb d_Lm_run_141 (by decide) ?_
                    exact ih _ _ _ _ hG hX (lv_sub hl [2] rfl)
                  · have hG := hG.2 c7
                    refine lv_iload_n hx hb d_Lm_run_99 rfl (lv_at hl 0 rfl) ?_
                    refine lv_bipush (v := 6) hx hb d_Lm_run_100 (by decide) ?_
                    refine lv_icmp_ne (tgt := 114) hx hb d_Lm_run_102 (by decide) (fun c10 => ?_) (fun c10 => ?_)
                    · have hG := hG.1 c10
                      refine lv_iload_n hx hb d_Lm_run_114 rfl (lv_at hl 0 rfl) ?_
                      refine lv_bipush (v := 7) hx hb d_Lm_run_115 (by decide) ?_
                      refine lv_icmp_ne (tgt := 136) hx hb d_Lm_run_117 (by decide) (fun c11 => ?_) (fun c11 => ?_)
                      · have hG := hG.1 c11
                        refine lv_aload_n hx hb d_Lm_run_136 rfl (lv_at hl 2 rfl) ?_
                        refine lv_iload_n hx hb d_Lm_run_137 rfl (lv_at hl 1 rfl) ?_
                        refine ll_callvv cx hA hX (c_Lm_make l D h cI cZ _ _ _ hG) (cw_Lm_125 cx.1.2.2.2.2 (ll_hR (by omega) (by decide))) (va_recv cx.2 hX.1 (ci := 3) (q0 := 0) rfl rfl) rfl hl.1 rfl (Nat.le_of_ble_eq_true rfl) d_Lm_run_138 ⟨Nat.zero_le _, Nat.zero_le _⟩ (fun f13 H locs hG hX => ?_)
                        refine lv_goto (tgt := 0) hx hb d_Lm_run_141 (by decide) ?_
                        exact ih _ _ _ _ hG hX (lv_sub hl [2] rfl)
                      · have hG := hG.2 c11
                        refine lv_aload_n hx hb d_Lm_run_120 rfl (lv_at hl 2 rfl) ?_
                        refine lv_iload_n hx hb d_Lm_run_121 rfl (lv_at hl 1 rfl) ?_
                        refine lv_aload_n hx hb d_Lm_run_122 rfl (lv_at hl 2 rfl) ?_
                        refine gm_Lm_fileInterface cx hX d_Lm_run_123 ?_
                        refine lv_iload_n hx hb d_Lm_run_126 rfl (lv_at hl 1 rfl) ?_
                        refine lm_4 cx hX hG.1 d_Lm_run_127 ?_
                        replace hG := hG.2
                        refine lv_bipush (v := 6) hx hb d_Lm_run_128 (by decide) ?_
                        refine ll_callvv cx hA hX (c_Lm_askFor l D h cI cZ _ _ _ _ _ hG) (cw_Lm_121 cx.1.2.2.2.2 (ll_hR (by omega) (by decide))) (va_recv cx.2 hX.1 (ci := 3) (q0 := 0) rfl rfl) rfl hl.1 rfl (Nat.le_of_ble_eq_true rfl) d_Lm_run_130 ⟨Nat.zero_le _, Nat.zero_le _⟩ (fun f15 H locs hG hX => ?_)
                        refine lv_goto (tgt := 141) hx hb d_Lm_run_133 (by decide) ?_
                        refine lv_goto (tgt := 0) hx hb d_Lm_run_141 (by decide) ?_
                        exact ih _ _ _ _ hG hX (lv_sub hl [2] rfl)
                    · have hG := hG.2 c10
                      refine lv_aload_n hx hb d_Lm_run_105 rfl (lv_at hl 2 rfl) ?_
                      refine lv_iload_n hx hb d_Lm_run_106 rfl (lv_at hl 1 rfl) ?_
                      refine lv_iload_n hx hb d_Lm_run_107 rfl (lv_at hl 0 rfl) ?_
                      refine ll_callvv cx hA hX (c_Lm_resolved l D h cI cZ _ _ _ _ hG) (cw_Lm_118 cx.1.2.2.2.2 (ll_hR (by omega) (by decide))) (va_recv cx.2 hX.1 (ci := 3) (q0 := 0) rfl rfl) rfl hl.1 rfl (Nat.le_of_ble_eq_true rfl) d_Lm_run_108 ⟨Nat.zero_le _, Nat.zero_le _⟩ (fun f17 H locs hG hX => ?_)
                      refine lv_goto (tgt := 141) hx hb d_Lm_run_111 (by decide) ?_
                      refine lv_goto (tgt := 0) hx hb d_Lm_run_141 (by decide) ?_
                      exact ih _ _ _ _ hG hX (lv_sub hl [2] rfl)
                · have hG := hG.2 c6
                  refine lv_aload_n hx hb d_Lm_run_86 rfl (lv_at hl 2 rfl) ?_
                  refine lv_iload_n hx hb d_Lm_run_87 rfl (lv_at hl 1 rfl) ?_
                  refine ll_callvv cx hA hX (c_Lm_define l D h cI cZ _ _ _ hG) (cw_Lm_115 cx.1.2.2.2.2 (ll_hR (by omega) (by decide))) (va_recv cx.2 hX.1 (ci := 3) (q0 := 0) rfl rfl) rfl hl.1 rfl (Nat.le_of_ble_eq_true rfl) d_Lm_run_88 ⟨Nat.zero_le _, Nat.zero_le _⟩ (fun f19 H locs hG hX => ?_)
                  refine lv_goto (tgt := 141) hx hb d_Lm_run_91 (by decide) ?_
                  refine lv_goto (tgt := 0) hx hb d_Lm_run_141 (by decide) ?_
                  exact ih _ _ _ _ hG hX (lv_sub hl [2] rfl)
              · have hG := hG.2 c5
                refine lv_aload_n hx hb d_Lm_run_73 rfl (lv_at hl 2 rfl) ?_
                refine lv_iload_n hx hb d_Lm_run_74 rfl (lv_at hl 1 rfl) ?_
                refine ll_callvv cx hA hX (c_Lm_unused l D h cI cZ _ _ _ hG) (cw_Lm_112 cx.1.2.2.2.2 (ll_hR (by omega) (by decide))) (va_recv cx.2 hX.1 (ci := 3) (q0 := 0) rfl rfl) rfl hl.1 rfl (Nat.le_of_ble_eq_true rfl) d_Lm_run_75 ⟨Nat.zero_le _, Nat.zero_le _⟩ (fun f21 H locs hG hX => ?_)
                refine lv_goto (tgt := 141) hx hb d_Lm_run_78 (by decide) ?_
                refine lv_goto (tgt := 0) hx hb d_Lm_run_141 (by decide) ?_
                exact ih _ _ _ _ hG hX (lv_sub hl [2] rfl)
            · have hG := hG.2 c4
              refine lv_aload_n hx hb d_Lm_run_60 rfl (lv_at hl 2 rfl) ?_
              refine lv_iload_n hx hb d_Lm_run_61 rfl (lv_at hl 1 rfl) ?_
              refine ll_callvv cx hA hX (c_Lm_answered l D h cI cZ _ _ _ hG) (cw_Lm_109 cx.1.2.2.2.2 (ll_hR (by omega) (by decide))) (va_recv cx.2 hX.1 (ci := 3) (q0 := 0) rfl rfl) rfl hl.1 rfl (Nat.le_of_ble_eq_true rfl) d_Lm_run_62 ⟨Nat.zero_le _, Nat.zero_le _⟩ (fun f23 H locs hG hX => ?_)
              refine lv_goto (tgt := 141) hx hb d_Lm_run_65 (by decide) ?_
              refine lv_goto (tgt := 0) hx hb d_Lm_run_141 (by decide) ?_
              exact ih _ _ _ _ hG hX (lv_sub hl [2] rfl)
          · have hG := hG.2 c3
            refine lv_aload_n hx hb d_Lm_run_48 rfl (lv_at hl 2 rfl) ?_
            refine ll_callvv cx hA hX (c_Lm_parentAnswers l D h cI cZ _ _ hG) (cw_Lm_106 cx.1.2.2.2.2 (ll_hR (by omega) (by decide))) (va_recv cx.2 hX.1 (ci := 3) (q0 := 0) rfl rfl) rfl hl.1 rfl (Nat.le_of_ble_eq_true rfl) d_Lm_run_49 ⟨Nat.zero_le _, Nat.zero_le _⟩ (fun f25 H locs hG hX => ?_)
            refine lv_goto (tgt := 141) hx hb d_Lm_run_52 (by decide) ?_
            refine lv_goto (tgt := 0) hx hb d_Lm_run_141 (by decide) ?_
            exact ih _ _ _ _ hG hX (lv_sub hl [2] rfl)
        · have hG := hG.2 c2
          refine lv_aload_n hx hb d_Lm_run_35 rfl (lv_at hl 2 rfl) ?_
          refine lv_iload_n hx hb d_Lm_run_36 rfl (lv_at hl 1 rfl) ?_
          refine ll_callvv cx hA hX (c_Lm_start l D h cI cZ _ _ _ hG) (cw_Lm_102 cx.1.2.2.2.2 (ll_hR (by omega) (by decide))) (va_recv cx.2 hX.1 (ci := 3) (q0 := 0) rfl rfl) rfl hl.1 rfl (Nat.le_of_ble_eq_true rfl) d_Lm_run_37 ⟨Nat.zero_le _, Nat.zero_le _⟩ (fun f27 H locs hG hX => ?_)
          refine lv_goto (tgt := 141) hx hb d_Lm_run_40 (by decide) ?_
          refine lv_goto (tgt := 0) hx hb d_Lm_run_141 (by decide) ?_
          exact ih _ _ _ _ hG hX (lv_sub hl [2] rfl)
set_option maxHeartbeats 4000000 in
set_option maxRecDepth 100000 in
theorem c_Lm_run (l : Launch) (D : va_G) (h : Nat → Nat) (cI cZ : ClassId) (f : ll_S) (K : ll_S → Prop) (hG : G_Lm_run f K) : ll_Mv l y_Lm_run (Cond.code y_Lm_run b_Lm_run 3 none :: ll_xt) (ll_rk 5) D [(cI, .int), (cZ, .boolean)] (wd_M h cI cZ) [.ref (h 0)] f K := by
  refine ll_startv (own := "LoaderLabModel") (by decide) rfl (Nat.le_of_ble_eq_true rfl) (fun p e s m below meth c ls cx hr hlk hA hX hl => ?_)
  have hl : lv_has ls 3 [(0, .ref (h 0))] := hl
  obtain ⟨⟨hx, hb, -, -, -⟩, -⟩ := id cx
  unfold G_Lm_run at hG
  obtain ⟨kf, hG⟩ := hG
  exact (w_Lm_run l cx hr hlk hA kf) _ _ _ _ hG hX (lv_sub hl [0] rfl)
def G_Lm_finish (f : ll_S) (K : Int32 → ll_S → Prop) : Prop := ((0 ≤ (f 24 0) → (∀ f2, f2 = ll_w f 27 0 0 → ((0 ≤ (f2 24 0) → (∀ f4, f4 = ll_w f2 28 0 0 → K (f4 24 0) f4)) ∧ (¬ 0 ≤ (f2 24 0) → (∀ f5, f5 = ll_w f2 28 0 (f2 25 0) → K (f5 24 0) f5))))) ∧ (¬ 0 ≤ (f 24 0) → (∀ f6, f6 = ll_w f 27 0 (f 24 0) → ((0 ≤ (f6 24 0) → (∀ f8, f8 = ll_w f6 28 0 0 → K (f8 24 0) f8)) ∧ (¬ 0 ≤ (f6 24 0) → (∀ f9, f9 = ll_w f6 28 0 (f6 25 0) → K (f9 24 0) f9))))))
set_option maxHeartbeats 4000000 in
set_option maxRecDepth 100000 in
theorem c_Lm_finish (l : Launch) (D : va_G) (h : Nat → Nat) (cI cZ : ClassId) (f : ll_S) (K : Int32 → ll_S → Prop) (hG : G_Lm_finish f K) : ll_Mi l y_Lm_finish (Cond.code y_Lm_finish b_Lm_finish 1 (some .int) :: ll_xt) (ll_rk 0) D [(cI, .int), (cZ, .boolean)] (wd_M h cI cZ) [.ref (h 0)] f K := by
  refine ll_starti (own := "LoaderLabModel") (by decide) rfl (Nat.le_of_ble_eq_true rfl) (fun p e s m below meth c ls cx hr hlk hA hX hl => ?_)
  have hl : lv_has ls 1 [(0, .ref (h 0))] := hl
  obtain ⟨⟨hx, hb, -, -, -⟩, -⟩ := id cx
  unfold G_Lm_finish at hG
  refine lv_aload_n hx hb d_Lm_finish_0 rfl (lv_at hl 0 rfl) ?_
  refine lv_aload_n hx hb d_Lm_finish_1 rfl (lv_at hl 0 rfl) ?_
  refine gm_Lm_got cx hX d_Lm_finish_2 ?_
  refine lv_if_ge (tgt := 15) hx hb d_Lm_finish_5 (by decide) (fun c1 => ?_) (fun c1 => ?_)
  · have hG := hG.1 c1
    refine lv_iconst (v := 0) hx hb d_Lm_finish_15 (by decide) ?_
    refine pm_Lm_lastCode cx hX d_Lm_finish_16 (fun f2 ef2 H locs hX => ?_)
    replace hG := hG f2 ef2
    refine lv_aload_n hx hb d_Lm_finish_19 rfl (lv_at hl 0 rfl) ?_
    refine lv_aload_n hx hb d_Lm_finish_20 rfl (lv_at hl 0 rfl) ?_
    refine gm_Lm_got cx hX d_Lm_finish_21 ?_
    refine lv_if_ge (tgt := 34) hx hb d_Lm_finish_24 (by decide) (fun c3 => ?_) (fun c3 => ?_)
    · have hG := hG.1 c3
      refine lv_iconst (v := 0) hx hb d_Lm_finish_34 (by decide) ?_
      refine pm_Lm_lastCause cx hX d_Lm_finish_35 (fun f4 ef4 H locs hX => ?_)
      replace hG := hG f4 ef4
      refine lv_aload_n hx hb d_Lm_finish_38 rfl (lv_at hl 0 rfl) ?_
      refine gm_Lm_got cx hX d_Lm_finish_39 ?_
      exact ll_iret cx hr hlk hX hG d_Lm_finish_42
    · have hG := hG.2 c3
      refine lv_aload_n hx hb d_Lm_finish_27 rfl (lv_at hl 0 rfl) ?_
      refine gm_Lm_gotCause cx hX d_Lm_finish_28 ?_
      refine lv_goto (tgt := 35) hx hb d_Lm_finish_31 (by decide) ?_
      refine pm_Lm_lastCause cx hX d_Lm_finish_35 (fun f5 ef5 H locs hX => ?_)
      replace hG := hG f5 ef5
      refine lv_aload_n hx hb d_Lm_finish_38 rfl (lv_at hl 0 rfl) ?_
      refine gm_Lm_got cx hX d_Lm_finish_39 ?_
      exact ll_iret cx hr hlk hX hG d_Lm_finish_42
  · have hG := hG.2 c1
    refine lv_aload_n hx hb d_Lm_finish_8 rfl (lv_at hl 0 rfl) ?_
    refine gm_Lm_got cx hX d_Lm_finish_9 ?_
    refine lv_goto (tgt := 16) hx hb d_Lm_finish_12 (by decide) ?_
    refine pm_Lm_lastCode cx hX d_Lm_finish_16 (fun f6 ef6 H locs hX => ?_)
    replace hG := hG f6 ef6
    refine lv_aload_n hx hb d_Lm_finish_19 rfl (lv_at hl 0 rfl) ?_
    refine lv_aload_n hx hb d_Lm_finish_20 rfl (lv_at hl 0 rfl) ?_
    refine gm_Lm_got cx hX d_Lm_finish_21 ?_
    refine lv_if_ge (tgt := 34) hx hb d_Lm_finish_24 (by decide) (fun c7 => ?_) (fun c7 => ?_)
    · have hG := hG.1 c7
      refine lv_iconst (v := 0) hx hb d_Lm_finish_34 (by decide) ?_
      refine pm_Lm_lastCause cx hX d_Lm_finish_35 (fun f8 ef8 H locs hX => ?_)
      replace hG := hG f8 ef8
      refine lv_aload_n hx hb d_Lm_finish_38 rfl (lv_at hl 0 rfl) ?_
      refine gm_Lm_got cx hX d_Lm_finish_39 ?_
      exact ll_iret cx hr hlk hX hG d_Lm_finish_42
    · have hG := hG.2 c7
      refine lv_aload_n hx hb d_Lm_finish_27 rfl (lv_at hl 0 rfl) ?_
      refine gm_Lm_gotCause cx hX d_Lm_finish_28 ?_
      refine lv_goto (tgt := 35) hx hb d_Lm_finish_31 (by decide) ?_
      refine pm_Lm_lastCause cx hX d_Lm_finish_35 (fun f9 ef9 H locs hX => ?_)
      replace hG := hG f9 ef9
      refine lv_aload_n hx hb d_Lm_finish_38 rfl (lv_at hl 0 rfl) ?_
      refine gm_Lm_got cx hX d_Lm_finish_39 ?_
      exact ll_iret cx hr hlk hX hG d_Lm_finish_42
def G_Lm_load (f : ll_S) (a1 : Int32) (a2 : Int32) (K : Int32 → ll_S → Prop) : Prop := (G_Lm_place f a1 a2 (fun r1 f2 => ((¬ r1 = 0 → (∀ f4, f4 = ll_w f2 26 0 0 → (G_Lm_begin f4 a1 a2 (fun f6 => (G_Lm_run f6  (fun f8 => (G_Lm_finish f8  (fun r9 f10 => K r9 f10)))))))) ∧ (r1 = 0 → K (-1) f2))))
set_option maxHeartbeats 4000000 in
set_option maxRecDepth 100000 in
theorem c_Lm_load (l : Launch) (D : va_G) (h : Nat → Nat) (cI cZ : ClassId) (f : ll_S) (a1 : Int32) (a2 : Int32) (K : Int32 → ll_S → Prop) (hG : G_Lm_load f a1 a2 K) : ll_Mi l y_Lm_load (Cond.code y_Lm_load b_Lm_load 3 (some .int) :: ll_xt) (ll_rk 6) D [(cI, .int), (cZ, .boolean)] (wd_M h cI cZ) [.ref (h 0), .int a1, .int a2] f K := by
  refine ll_starti (own := "LoaderLabModel") (by decide) rfl (Nat.le_of_ble_eq_true rfl) (fun p e s m below meth c ls cx hr hlk hA hX hl => ?_)
  have hl : lv_has ls 3 [(0, .ref (h 0)), (1, .int a1), (2, .int a2)] := hl
  obtain ⟨⟨hx, hb, -, -, -⟩, -⟩ := id cx
  unfold G_Lm_load at hG
  refine lv_iload_n hx hb d_Lm_load_0 rfl (lv_at hl 1 rfl) ?_
  refine lv_iload_n hx hb d_Lm_load_1 rfl (lv_at hl 2 rfl) ?_
  refine ll_callsi cx hA hX (c_Lm_place l D h cI cZ _ _ _ _ hG) (cw_Lm_81 cx.1.2.2.2.2 (ll_hR (by omega) (by decide))) rfl hl.1 rfl (Nat.le_of_ble_eq_true rfl) d_Lm_load_2 ⟨Nat.zero_le _, Nat.zero_le _⟩ (fun r1 f2 H locs hG hX => ?_)
  refine lv_if_ne (tgt := 10) hx hb d_Lm_load_5 (by decide) (fun c3 => ?_) (fun c3 => ?_)
  · have hG := hG.1 c3
    refine lv_aload_n hx hb d_Lm_load_10 rfl (lv_at hl 0 rfl) ?_
    refine lv_iconst (v := 0) hx hb d_Lm_load_11 (by decide) ?_
    refine pm_Lm_begun cx hX d_Lm_load_12 (fun f4 ef4 H locs hX => ?_)
    replace hG := hG f4 ef4
    refine lv_aload_n hx hb d_Lm_load_15 rfl (lv_at hl 0 rfl) ?_
    refine lv_iload_n hx hb d_Lm_load_16 rfl (lv_at hl 1 rfl) ?_
    refine lv_iload_n hx hb d_Lm_load_17 rfl (lv_at hl 2 rfl) ?_
    refine ll_callvv cx hA hX (c_Lm_begin l D h cI cZ _ _ _ _ hG) (cw_Lm_140 cx.1.2.2.2.2 (ll_hR (by omega) (by decide))) (va_recv cx.2 hX.1 (ci := 3) (q0 := 0) rfl rfl) rfl hl.1 rfl (Nat.le_of_ble_eq_true rfl) d_Lm_load_18 ⟨Nat.zero_le _, Nat.zero_le _⟩ (fun f6 H locs hG hX => ?_)
    refine lv_aload_n hx hb d_Lm_load_21 rfl (lv_at hl 0 rfl) ?_
    refine ll_callvv cx hA hX (c_Lm_run l D h cI cZ _ _ hG) (cw_Lm_155 cx.1.2.2.2.2 (ll_hR (by omega) (by decide))) (va_recv cx.2 hX.1 (ci := 3) (q0 := 0) rfl rfl) rfl hl.1 rfl (Nat.le_of_ble_eq_true rfl) d_Lm_load_22 ⟨Nat.zero_le _, Nat.zero_le _⟩ (fun f8 H locs hG hX => ?_)
    refine lv_aload_n hx hb d_Lm_load_25 rfl (lv_at hl 0 rfl) ?_
    refine ll_callvi cx hA hX (c_Lm_finish l D h cI cZ _ _ hG) (cw_Lm_158 cx.1.2.2.2.2 (ll_hR (by omega) (by decide))) (va_recv cx.2 hX.1 (ci := 3) (q0 := 0) rfl rfl) rfl hl.1 rfl (Nat.le_of_ble_eq_true rfl) d_Lm_load_26 ⟨Nat.zero_le _, Nat.zero_le _⟩ (fun r9 f10 H locs hG hX => ?_)
    exact ll_iret cx hr hlk hX hG d_Lm_load_29
  · have hG := hG.2 c3
    refine lv_iconst (v := (-1)) hx hb d_Lm_load_8 (by decide) ?_
    exact ll_iret cx hr hlk hX hG d_Lm_load_9
def G_Lm_refer (f : ll_S) (a1 : Int32) (a2 : Int32) (a3 : Int32) (K : Int32 → ll_S → Prop) : Prop := (G_Lm_in f a1 1 (f 22 0) (fun r1 f2 => ((r1 = 0 → K (-1) f2) ∧ (¬ r1 = 0 → (G_Lm_in f2 a2 0 3 (fun r4 f5 => ((r4 = 0 → K (-1) f5) ∧ (¬ r4 = 0 → (G_Lm_in f5 a3 0 7 (fun r7 f8 => ((r7 = 0 → K (-1) f8) ∧ (¬ r7 = 0 → (vp_in (((4 * a1) + a2) - 4) 124 ∧ (((f8 17 ((((4 * a1) + a2) - 4)).toNatClampNeg) = 0 → (vp_in (((4 * a1) + a2) - 4) 124 ∧ ∀ f11, f11 = ll_w f8 16 ((((4 * a1) + a2) - 4)).toNatClampNeg (a3 + 1) → K 0 f11)) ∧ (¬ (f8 17 ((((4 * a1) + a2) - 4)).toNatClampNeg) = 0 → K (-1) f8)))))))))))))))
set_option maxHeartbeats 4000000 in
set_option maxRecDepth 100000 in
theorem c_Lm_refer (l : Launch) (D : va_G) (h : Nat → Nat) (cI cZ : ClassId) (f : ll_S) (a1 : Int32) (a2 : Int32) (a3 : Int32) (K : Int32 → ll_S → Prop) (hG : G_Lm_refer f a1 a2 a3 K) : ll_Mi l y_Lm_refer (Cond.code y_Lm_refer b_Lm_refer 4 (some .int) :: ll_xt) (ll_rk 1) D [(cI, .int), (cZ, .boolean)] (wd_M h cI cZ) [.ref (h 0), .int a1, .int a2, .int a3] f K := by
  refine ll_starti (own := "LoaderLabModel") (by decide) rfl (Nat.le_of_ble_eq_true rfl) (fun p e s m below meth c ls cx hr hlk hA hX hl => ?_)
  have hl : lv_has ls 4 [(0, .ref (h 0)), (1, .int a1), (2, .int a2), (3, .int a3)] := hl
  obtain ⟨⟨hx, hb, -, -, -⟩, -⟩ := id cx
  unfold G_Lm_refer at hG
  refine lv_iload_n hx hb d_Lm_refer_0 rfl (lv_at hl 1 rfl) ?_
  refine lv_iconst (v := 1) hx hb d_Lm_refer_1 (by decide) ?_
  refine lv_aload_n hx hb d_Lm_refer_2 rfl (lv_at hl 0 rfl) ?_
  refine gm_Lm_classes cx hX d_Lm_refer_3 ?_
  refine ll_callsi cx hA hX (c_Lm_in l D h cI cZ _ _ _ _ _ hG) (cw_Lm_77 cx.1.2.2.2.2 (ll_hR (by omega) (by decide))) rfl hl.1 rfl (Nat.le_of_ble_eq_true rfl) d_Lm_refer_6 ⟨Nat.zero_le _, Nat.zero_le _⟩ (fun r1 f2 H locs hG hX => ?_)
  refine lv_if_eq (tgt := 46) hx hb d_Lm_refer_9 (by decide) (fun c3 => ?_) (fun c3 => ?_)
  · have hG := hG.1 c3
    refine lv_iconst (v := (-1)) hx hb d_Lm_refer_46 (by decide) ?_
    exact ll_iret cx hr hlk hX hG d_Lm_refer_47
  · have hG := hG.2 c3
    refine lv_iload_n hx hb d_Lm_refer_12 rfl (lv_at hl 2 rfl) ?_
    refine lv_iconst (v := 0) hx hb d_Lm_refer_13 (by decide) ?_
    refine lv_iconst (v := 3) hx hb d_Lm_refer_14 (by decide) ?_
    refine ll_callsi cx hA hX (c_Lm_in l D h cI cZ _ _ _ _ _ hG) (cw_Lm_77 cx.1.2.2.2.2 (ll_hR (by omega) (by decide))) rfl hl.1 rfl (Nat.le_of_ble_eq_true rfl) d_Lm_refer_15 ⟨Nat.zero_le _, Nat.zero_le _⟩ (fun r4 f5 H locs hG hX => ?_)
    refine lv_if_eq (tgt := 46) hx hb d_Lm_refer_18 (by decide) (fun c6 => ?_) (fun c6 => ?_)
    · have hG := hG.1 c6
      refine lv_iconst (v := (-1)) hx hb d_Lm_refer_46 (by decide) ?_
      exact ll_iret cx hr hlk hX hG d_Lm_refer_47
    · have hG := hG.2 c6
      refine lv_iload_n hx hb d_Lm_refer_21 rfl (lv_at hl 3 rfl) ?_
      refine lv_iconst (v := 0) hx hb d_Lm_refer_22 (by decide) ?_
      refine lv_bipush (v := 7) hx hb d_Lm_refer_23 (by decide) ?_
      refine ll_callsi cx hA hX (c_Lm_in l D h cI cZ _ _ _ _ _ hG) (cw_Lm_77 cx.1.2.2.2.2 (ll_hR (by omega) (by decide))) rfl hl.1 rfl (Nat.le_of_ble_eq_true rfl) d_Lm_refer_25 ⟨Nat.zero_le _, Nat.zero_le _⟩ (fun r7 f8 H locs hG hX => ?_)
      refine lv_if_eq (tgt := 46) hx hb d_Lm_refer_28 (by decide) (fun c9 => ?_) (fun c9 => ?_)
      · have hG := hG.1 c9
        refine lv_iconst (v := (-1)) hx hb d_Lm_refer_46 (by decide) ?_
        exact ll_iret cx hr hlk hX hG d_Lm_refer_47
      · have hG := hG.2 c9
        refine lv_aload_n hx hb d_Lm_refer_31 rfl (lv_at hl 0 rfl) ?_
        refine gm_Lm_kept cx hX d_Lm_refer_32 ?_
        refine lv_iconst (v := 4) hx hb d_Lm_refer_35 (by decide) ?_
        refine lv_iload_n hx hb d_Lm_refer_36 rfl (lv_at hl 1 rfl) ?_
        refine lv_imul hx hb d_Lm_refer_37 ?_
        refine lv_iload_n hx hb d_Lm_refer_38 rfl (lv_at hl 2 rfl) ?_
        refine lv_iadd hx hb d_Lm_refer_39 ?_
        refine lv_iconst (v := 4) hx hb d_Lm_refer_40 (by decide) ?_
        refine lv_isub hx hb d_Lm_refer_41 ?_
        refine lm_17 cx hX hG.1 d_Lm_refer_42 ?_
        replace hG := hG.2
        refine lv_if_eq (tgt := 48) hx hb d_Lm_refer_43 (by decide) (fun c10 => ?_) (fun c10 => ?_)
        · have hG := hG.1 c10
          refine lv_aload_n hx hb d_Lm_refer_48 rfl (lv_at hl 0 rfl) ?_
          refine gm_Lm_refers cx hX d_Lm_refer_49 ?_
          refine lv_iconst (v := 4) hx hb d_Lm_refer_52 (by decide) ?_
          refine lv_iload_n hx hb d_Lm_refer_53 rfl (lv_at hl 1 rfl) ?_
          refine lv_imul hx hb d_Lm_refer_54 ?_
          refine lv_iload_n hx hb d_Lm_refer_55 rfl (lv_at hl 2 rfl) ?_
          refine lv_iadd hx hb d_Lm_refer_56 ?_
          refine lv_iconst (v := 4) hx hb d_Lm_refer_57 (by decide) ?_
          refine lv_isub hx hb d_Lm_refer_58 ?_
          refine lv_iload_n hx hb d_Lm_refer_59 rfl (lv_at hl 3 rfl) ?_
          refine lv_iconst (v := 1) hx hb d_Lm_refer_60 (by decide) ?_
          refine lv_iadd hx hb d_Lm_refer_61 ?_
          refine sm_16 cx hX hG.1 d_Lm_refer_62 (fun f11 ef11 H locs hX => ?_)
          replace hG := hG.2 f11 ef11
          refine lv_iconst (v := 0) hx hb d_Lm_refer_63 (by decide) ?_
          exact ll_iret cx hr hlk hX hG d_Lm_refer_64
        · have hG := hG.2 c10
          refine lv_iconst (v := (-1)) hx hb d_Lm_refer_46 (by decide) ?_
          exact ll_iret cx hr hlk hX hG d_Lm_refer_47
def G_Lm_resolve (f : ll_S) (a1 : Int32) (a2 : Int32) (K : Int32 → ll_S → Prop) : Prop := (G_Lm_in f a1 1 (f 22 0) (fun r1 f2 => ((r1 = 0 → K (-1) f2) ∧ (¬ r1 = 0 → (G_Lm_in f2 a2 0 3 (fun r4 f5 => ((r4 = 0 → K (-1) f5) ∧ (¬ r4 = 0 → (vp_in (((4 * a1) + a2) - 4) 124 ∧ ((¬ (f5 16 ((((4 * a1) + a2) - 4)).toNatClampNeg) = 0 → (∀ f8, f8 = ll_w f5 26 0 0 → (vp_in (((4 * a1) + a2) - 4) 124 ∧ ((¬ (f8 17 ((((4 * a1) + a2) - 4)).toNatClampNeg) = 0 → (vp_in (((4 * a1) + a2) - 4) 124 ∧ (vp_in (((4 * a1) + a2) - 4) 124 ∧ (G_Lm_come f8 (f8 17 ((((4 * a1) + a2) - 4)).toNatClampNeg) (f8 18 ((((4 * a1) + a2) - 4)).toNatClampNeg) (fun f11 => (G_Lm_finish f11  (fun r12 f13 => K r12 f13))))))) ∧ ((f8 17 ((((4 * a1) + a2) - 4)).toNatClampNeg) = 0 → (vp_in a1 31 ∧ (vp_in (((4 * a1) + a2) - 4) 124 ∧ (G_Lm_begin f8 (f8 12 (a1).toNatClampNeg) ((f8 16 ((((4 * a1) + a2) - 4)).toNatClampNeg) - 1) (fun f15 => (G_Lm_run f15  (fun f17 => ((¬ (f17 24 0) = (-3 : Int32) → (vp_in (((4 * a1) + a2) - 4) 124 ∧ ∀ f19, f19 = ll_w f17 17 ((((4 * a1) + a2) - 4)).toNatClampNeg (f17 24 0) → ((0 ≤ (f19 24 0) → (vp_in (((4 * a1) + a2) - 4) 124 ∧ ∀ f21, f21 = ll_w f19 18 ((((4 * a1) + a2) - 4)).toNatClampNeg 0 → (vp_in (((4 * a1) + a2) - 4) 124 ∧ (vp_in (((4 * a1) + a2) - 4) 124 ∧ (G_Lm_come f21 (f21 17 ((((4 * a1) + a2) - 4)).toNatClampNeg) (f21 18 ((((4 * a1) + a2) - 4)).toNatClampNeg) (fun f23 => (G_Lm_finish f23  (fun r24 f25 => K r24 f25)))))))) ∧ (¬ 0 ≤ (f19 24 0) → (vp_in (((4 * a1) + a2) - 4) 124 ∧ ∀ f26, f26 = ll_w f19 18 ((((4 * a1) + a2) - 4)).toNatClampNeg (f19 25 0) → (vp_in (((4 * a1) + a2) - 4) 124 ∧ (vp_in (((4 * a1) + a2) - 4) 124 ∧ (G_Lm_come f26 (f26 17 ((((4 * a1) + a2) - 4)).toNatClampNeg) (f26 18 ((((4 * a1) + a2) - 4)).toNatClampNeg) (fun f28 => (G_Lm_finish f28  (fun r29 f30 => K r29 f30))))))))))) ∧ ((f17 24 0) = (-3 : Int32) → (G_Lm_come f17 (-4) (-3) (fun f32 => (vp_in (((4 * a1) + a2) - 4) 124 ∧ ∀ f33, f33 = ll_w f32 17 ((((4 * a1) + a2) - 4)).toNatClampNeg (f32 24 0) → ((0 ≤ (f33 24 0) → (vp_in (((4 * a1) + a2) - 4) 124 ∧ ∀ f35, f35 = ll_w f33 18 ((((4 * a1) + a2) - 4)).toNatClampNeg 0 → (vp_in (((4 * a1) + a2) - 4) 124 ∧ (vp_in (((4 * a1) + a2) - 4) 124 ∧ (G_Lm_come f35 (f35 17 ((((4 * a1) + a2) - 4)).toNatClampNeg) (f35 18 ((((4 * a1) + a2) - 4)).toNatClampNeg) (fun f37 => (G_Lm_finish f37  (fun r38 f39 => K r38 f39)))))))) ∧ (¬ 0 ≤ (f33 24 0) → (vp_in (((4 * a1) + a2) - 4) 124 ∧ ∀ f40, f40 = ll_w f33 18 ((((4 * a1) + a2) - 4)).toNatClampNeg (f33 25 0) → (vp_in (((4 * a1) + a2) - 4) 124 ∧ (vp_in (((4 * a1) + a2) - 4) 124 ∧ (G_Lm_come f40 (f40 17 ((((4 * a1) + a2) - 4)).toNatClampNeg) (f40 18 ((((4 * a1) + a2) - 4)).toNatClampNeg) (fun f42 => (G_Lm_finish f42  (fun r43 f44 => K r43 f44))))))))))))))))))))))))) ∧ ((f5 16 ((((4 * a1) + a2) - 4)).toNatClampNeg) = 0 → K (-1) f5)))))))))))
set_option maxHeartbeats 4000000 in
set_option maxRecDepth 100000 in
theorem c_Lm_resolve (l : Launch) (D : va_G) (h : Nat → Nat) (cI cZ : ClassId) (f : ll_S) (a1 : Int32) (a2 : Int32) (K : Int32 → ll_S → Prop) (hG : G_Lm_resolve f a1 a2 K) : ll_Mi l y_Lm_resolve (Cond.code y_Lm_resolve b_Lm_resolve 4 (some .int) :: ll_xt) (ll_rk 6) D [(cI, .int), (cZ, .boolean)] (wd_M h cI cZ) [.ref (h 0), .int a1, .int a2] f K := by
  refine ll_starti (own := "LoaderLabModel") (by decide) rfl (Nat.le_of_ble_eq_true rfl) (fun p e s m below meth c ls cx hr hlk hA hX hl => ?_)
  have hl : lv_has ls 4 [(0, .ref (h 0)), (1, .int a1), (2, .int a2)] := hl
  obtain ⟨⟨hx, hb, -, -, -⟩, -⟩ := id cx
  unfold G_Lm_resolve at hG
  refine lv_iload_n hx hb d_Lm_resolve_0 rfl (lv_at hl 1 rfl) ?_
  refine lv_iconst (v := 1) hx hb d_Lm_resolve_1 (by decide) ?_
  refine lv_aload_n hx hb d_Lm_resolve_2 rfl (lv_at hl 0 rfl) ?_
  refine gm_Lm_classes cx hX d_Lm_resolve_3 ?_
  refine ll_callsi cx hA hX (c_Lm_in l D h cI cZ _ _ _ _ _ hG) (cw_Lm_77 cx.1.2.2.2.2 (ll_hR (by omega) (by decide))) rfl hl.1 rfl (Nat.le_of_ble_eq_true rfl) d_Lm_resolve_6 ⟨Nat.zero_le _, Nat.zero_le _⟩ (fun r1 f2 H locs hG hX => ?_)
  refine lv_if_eq (tgt := 36) hx hb d_Lm_resolve_9 (by decide) (fun c3 => ?_) (fun c3 => ?_)
  · have hG := hG.1 c3
    refine lv_iconst (v := (-1)) hx hb d_Lm_resolve_36 (by decide) ?_
    exact ll_iret cx hr hlk hX hG d_Lm_resolve_37
  · have hG := hG.2 c3
    refine lv_iload_n hx hb d_Lm_resolve_12 rfl (lv_at hl 2 rfl) ?_
    refine lv_iconst (v := 0) hx hb d_Lm_resolve_13 (by decide) ?_
    refine lv_iconst (v := 3) hx hb d_Lm_resolve_14 (by decide) ?_
    refine ll_callsi cx hA hX (c_Lm_in l D h cI cZ _ _ _ _ _ hG) (cw_Lm_77 cx.1.2.2.2.2 (ll_hR (by omega) (by decide))) rfl hl.1 rfl (Nat.le_of_ble_eq_true rfl) d_Lm_resolve_15 ⟨Nat.zero_le _, Nat.zero_le _⟩ (fun r4 f5 H locs hG hX => ?_)
    refine lv_if_eq (tgt := 36) hx hb d_Lm_resolve_18 (by decide) (fun c6 => ?_) (fun c6 => ?_)
    · have hG := hG.1 c6
      refine lv_iconst (v := (-1)) hx hb d_Lm_resolve_36 (by decide) ?_
      exact ll_iret cx hr hlk hX hG d_Lm_resolve_37
    · have hG := hG.2 c6
      refine lv_aload_n hx hb d_Lm_resolve_21 rfl (lv_at hl 0 rfl) ?_
      refine gm_Lm_refers cx hX d_Lm_resolve_22 ?_
      refine lv_iconst (v := 4) hx hb d_Lm_resolve_25 (by decide) ?_
      refine lv_iload_n hx hb d_Lm_resolve_26 rfl (lv_at hl 1 rfl) ?_
      refine lv_imul hx hb d_Lm_resolve_27 ?_
      refine lv_iload_n hx hb d_Lm_resolve_28 rfl (lv_at hl 2 rfl) ?_
      refine lv_iadd hx hb d_Lm_resolve_29 ?_
      refine lv_iconst (v := 4) hx hb d_Lm_resolve_30 (by decide) ?_
      refine lv_isub hx hb d_Lm_resolve_31 ?_
      refine lm_16 cx hX hG.1 d_Lm_resolve_32 ?_
      replace hG := hG.2
      refine lv_if_ne (tgt := 38) hx hb d_Lm_resolve_33 (by decide) (fun c7 => ?_) (fun c7 => ?_)
      · have hG := hG.1 c7
        refine lv_iconst (v := 4) hx hb d_Lm_resolve_38 (by decide) ?_
        refine lv_iload_n hx hb d_Lm_resolve_39 rfl (lv_at hl 1 rfl) ?_
        refine lv_imul hx hb d_Lm_resolve_40 ?_
        refine lv_iload_n hx hb d_Lm_resolve_41 rfl (lv_at hl 2 rfl) ?_
        refine lv_iadd hx hb d_Lm_resolve_42 ?_
        refine lv_iconst (v := 4) hx hb d_Lm_resolve_43 (by decide) ?_
        refine lv_isub hx hb d_Lm_resolve_44 ?_
        refine lv_istore_n (lv' := [(3, .int (((4 * a1) + a2) - 4)), (0, .ref (h 0)), (1, .int a1), (2, .int a2)]) hx hb d_Lm_resolve_45 rfl hl (by decide) rfl (fun ls hl => ?_)
        refine lv_aload_n hx hb d_Lm_resolve_46 rfl (lv_at hl 1 rfl) ?_
        refine lv_iconst (v := 0) hx hb d_Lm_resolve_47 (by decide) ?_
        refine pm_Lm_begun cx hX d_Lm_resolve_48 (fun f8 ef8 H locs hX => ?_)
        replace hG := hG f8 ef8
        refine lv_aload_n hx hb d_Lm_resolve_51 rfl (lv_at hl 1 rfl) ?_
        refine gm_Lm_kept cx hX d_Lm_resolve_52 ?_
        refine lv_iload_n hx hb d_Lm_resolve_55 rfl (lv_at hl 0 rfl) ?_
        refine lm_17 cx hX hG.1 d_Lm_resolve_56 ?_
        replace hG := hG.2
        refine lv_if_ne (tgt := 130) hx hb d_Lm_resolve_57 (by decide) (fun c9 => ?_) (fun c9 => ?_)
        · have hG := hG.1 c9
          refine lv_aload_n hx hb d_Lm_resolve_130 rfl (lv_at hl 1 rfl) ?_
          refine lv_aload_n hx hb d_Lm_resolve_131 rfl (lv_at hl 1 rfl) ?_
          refine gm_Lm_kept cx hX d_Lm_resolve_132 ?_
          refine lv_iload_n hx hb d_Lm_resolve_135 rfl (lv_at hl 0 rfl) ?_
          refine lm_17 cx hX hG.1 d_Lm_resolve_136 ?_
          replace hG := hG.2
          refine lv_aload_n hx hb d_Lm_resolve_137 rfl (lv_at hl 1 rfl) ?_
          refine gm_Lm_keptCause cx hX d_Lm_resolve_138 ?_
          refine lv_iload_n hx hb d_Lm_resolve_141 rfl (lv_at hl 0 rfl) ?_
          refine lm_18 cx hX hG.1 d_Lm_resolve_142 ?_
          replace hG := hG.2
          refine ll_callvv cx hA hX (c_Lm_come l D h cI cZ _ _ _ _ hG) (cw_Lm_95 cx.1.2.2.2.2 (ll_hR (by omega) (by decide))) (va_recv cx.2 hX.1 (ci := 3) (q0 := 0) rfl rfl) rfl hl.1 rfl (Nat.le_of_ble_eq_true rfl) d_Lm_resolve_143 ⟨Nat.zero_le _, Nat.zero_le _⟩ (fun f11 H locs hG hX => ?_)
          refine lv_aload_n hx hb d_Lm_resolve_146 rfl (lv_at hl 1 rfl) ?_
          refine ll_callvi cx hA hX (c_Lm_finish l D h cI cZ _ _ hG) (cw_Lm_158 cx.1.2.2.2.2 (ll_hR (by omega) (by decide))) (va_recv cx.2 hX.1 (ci := 3) (q0 := 0) rfl rfl) rfl hl.1 rfl (Nat.le_of_ble_eq_true rfl) d_Lm_resolve_147 ⟨Nat.zero_le _, Nat.zero_le _⟩ (fun r12 f13 H locs hG hX => ?_)
          exact ll_iret cx hr hlk hX hG d_Lm_resolve_150
        · have hG := hG.2 c9
          refine lv_aload_n hx hb d_Lm_resolve_60 rfl (lv_at hl 1 rfl) ?_
          refine lv_aload_n hx hb d_Lm_resolve_61 rfl (lv_at hl 1 rfl) ?_
          refine gm_Lm_owner cx hX d_Lm_resolve_62 ?_
          refine lv_iload_n hx hb d_Lm_resolve_65 rfl (lv_at hl 2 rfl) ?_
          refine lm_12 cx hX hG.1 d_Lm_resolve_66 ?_
          replace hG := hG.2
          refine lv_aload_n hx hb d_Lm_resolve_67 rfl (lv_at hl 1 rfl) ?_
          refine gm_Lm_refers cx hX d_Lm_resolve_68 ?_
          refine lv_iload_n hx hb d_Lm_resolve_71 rfl (lv_at hl 0 rfl) ?_
          refine lm_16 cx hX hG.1 d_Lm_resolve_72 ?_
          replace hG := hG.2
          refine lv_iconst (v := 1) hx hb d_Lm_resolve_73 (by decide) ?_
          refine lv_isub hx hb d_Lm_resolve_74 ?_
          refine ll_callvv cx hA hX (c_Lm_begin l D h cI cZ _ _ _ _ hG) (cw_Lm_140 cx.1.2.2.2.2 (ll_hR (by omega) (by decide))) (va_recv cx.2 hX.1 (ci := 3) (q0 := 0) rfl rfl) rfl hl.1 rfl (Nat.le_of_ble_eq_true rfl) d_Lm_resolve_75 ⟨Nat.zero_le _, Nat.zero_le _⟩ (fun f15 H locs hG hX => ?_)
          refine lv_aload_n hx hb d_Lm_resolve_78 rfl (lv_at hl 1 rfl) ?_
          refine ll_callvv cx hA hX (c_Lm_run l D h cI cZ _ _ hG) (cw_Lm_155 cx.1.2.2.2.2 (ll_hR (by omega) (by decide))) (va_recv cx.2 hX.1 (ci := 3) (q0 := 0) rfl rfl) rfl hl.1 rfl (Nat.le_of_ble_eq_true rfl) d_Lm_resolve_79 ⟨Nat.zero_le _, Nat.zero_le _⟩ (fun f17 H locs hG hX => ?_)
          refine lv_aload_n hx hb d_Lm_resolve_82 rfl (lv_at hl 1 rfl) ?_
          refine gm_Lm_got cx hX d_Lm_resolve_83 ?_
          refine lv_bipush (v := (-3)) hx hb d_Lm_resolve_86 (by decide) ?_
          refine lv_icmp_ne (tgt := 99) hx hb d_Lm_resolve_88 (by decide) (fun c18 => ?_) (fun c18 => ?_)
          · have hG := hG.1 c18
            refine lv_aload_n hx hb d_Lm_resolve_99 rfl (lv_at hl 1 rfl) ?_
            refine gm_Lm_kept cx hX d_Lm_resolve_100 ?_
            refine lv_iload_n hx hb d_Lm_resolve_103 rfl (lv_at hl 0 rfl) ?_
            refine lv_aload_n hx hb d_Lm_resolve_104 rfl (lv_at hl 1 rfl) ?_
            refine gm_Lm_got cx hX d_Lm_resolve_105 ?_
            refine sm_17 cx hX hG.1 d_Lm_resolve_108 (fun f19 ef19 H locs hX => ?_)
            replace hG := hG.2 f19 ef19
            refine lv_aload_n hx hb d_Lm_resolve_109 rfl (lv_at hl 1 rfl) ?_
            refine gm_Lm_keptCause cx hX d_Lm_resolve_110 ?_
            refine lv_iload_n hx hb d_Lm_resolve_113 rfl (lv_at hl 0 rfl) ?_
            refine lv_aload_n hx hb d_Lm_resolve_114 rfl (lv_at hl 1 rfl) ?_
            refine gm_Lm_got cx hX d_Lm_resolve_115 ?_
            refine lv_if_ge (tgt := 128) hx hb d_Lm_resolve_118 (by decide) (fun c20 => ?_) (fun c20 => ?_)
            · have hG := hG.1 c20
              refine lv_iconst (v := 0) hx hb d_Lm_resolve_128 (by decide) ?_
              refine sm_18 cx hX hG.1 d_Lm_resolve_129 (fun f21 ef21 H locs hX => ?_)
              replace hG := hG.2 f21 ef21
              refine lv_aload_n hx hb d_Lm_resolve_130 rfl (lv_at hl 1 rfl) ?_
              refine lv_aload_n hx hb d_Lm_resolve_131 rfl (lv_at hl 1 rfl) ?_
              refine gm_Lm_kept cx hX d_Lm_resolve_132 ?_
              refine lv_iload_n hx hb d_Lm_resolve_135 rfl (lv_at hl 0 rfl) ?_
              refine lm_17 cx hX hG.1 d_Lm_resolve_136 ?_
              replace hG := hG.2
              refine lv_aload_n hx hb d_Lm_resolve_137 rfl (lv_at hl 1 rfl) ?_
              refine gm_Lm_keptCause cx hX d_Lm_resolve_138 ?_
              refine lv_iload_n hx hb d_Lm_resolve_141 rfl (lv_at hl 0 rfl) ?_
              refine lm_18 cx hX hG.1 d_Lm_resolve_142 ?_
              replace hG := hG.2
              refine ll_callvv cx hA hX (c_Lm_come l D h cI cZ _ _ _ _ hG) (cw_Lm_95 cx.1.2.2.2.2 (ll_hR (by omega) (by decide))) (va_recv cx.2 hX.1 (ci := 3) (q0 := 0) rfl rfl) rfl hl.1 rfl (Nat.le_of_ble_eq_true rfl) d_Lm_resolve_143 ⟨Nat.zero_le _, Nat.zero_le _⟩ (fun f23 H locs hG hX => ?_)
              refine lv_aload_n hx hb d_Lm_resolve_146 rfl (lv_at hl 1 rfl) ?_
              refine ll_callvi cx hA hX (c_Lm_finish l D h cI cZ _ _ hG) (cw_Lm_158 cx.1.2.2.2.2 (ll_hR (by omega) (by decide))) (va_recv cx.2 hX.1 (ci := 3) (q0 := 0) rfl rfl) rfl hl.1 rfl (Nat.le_of_ble_eq_true rfl) d_Lm_resolve_147 ⟨Nat.zero_le _, Nat.zero_le _⟩ (fun r24 f25 H locs hG hX => ?_)
              exact ll_iret cx hr hlk hX hG d_Lm_resolve_150
            · have hG := hG.2 c20
              refine lv_aload_n hx hb d_Lm_resolve_121 rfl (lv_at hl 1 rfl) ?_
              refine gm_Lm_gotCause cx hX d_Lm_resolve_122 ?_
              refine lv_goto (tgt := 129) hx hb d_Lm_resolve_125 (by decide) ?_
              refine sm_18 cx hX hG.1 d_Lm_resolve_129 (fun f26 ef26 H locs hX => ?_)
              replace hG := hG.2 f26 ef26
              refine lv_aload_n hx hb d_Lm_resolve_130 rfl (lv_at hl 1 rfl) ?_
              refine lv_aload_n hx hb d_Lm_resolve_131 rfl (lv_at hl 1 rfl) ?_
              refine gm_Lm_kept cx hX d_Lm_resolve_132 ?_
              refine lv_iload_n hx hb d_Lm_resolve_135 rfl (lv_at hl 0 rfl) ?_
              refine lm_17 cx hX hG.1 d_Lm_resolve_136 ?_
              replace hG := hG.2
              refine lv_aload_n hx hb d_Lm_resolve_137 rfl (lv_at hl 1 rfl) ?_
              refine gm_Lm_keptCause cx hX d_Lm_resolve_138 ?_
              refine lv_iload_n hx hb d_Lm_resolve_141 rfl (lv_at hl 0 rfl) ?_
              refine lm_18 cx hX hG.1 d_Lm_resolve_142 ?_
              replace hG := hG.2
              refine ll_callvv cx hA hX (c_Lm_come l D h cI cZ _ _ _ _ hG) (cw_Lm_95 cx.1.2.2.2.2 (ll_hR (by omega) (by decide))) (va_recv cx.2 hX.1 (ci := 3) (q0 := 0) rfl rfl) rfl hl.1 rfl (Nat.le_of_ble_eq_true rfl) d_Lm_resolve_143 ⟨Nat.zero_le _, Nat.zero_le _⟩ (fun f28 H locs hG hX => ?_)
              refine lv_aload_n hx hb d_Lm_resolve_146 rfl (lv_at hl 1 rfl) ?_
              refine ll_callvi cx hA hX (c_Lm_finish l D h cI cZ _ _ hG) (cw_Lm_158 cx.1.2.2.2.2 (ll_hR (by omega) (by decide))) (va_recv cx.2 hX.1 (ci := 3) (q0 := 0) rfl rfl) rfl hl.1 rfl (Nat.le_of_ble_eq_true rfl) d_Lm_resolve_147 ⟨Nat.zero_le _, Nat.zero_le _⟩ (fun r29 f30 H locs hG hX => ?_)
              exact ll_iret cx hr hlk hX hG d_Lm_resolve_150
          · have hG := hG.2 c18
            refine lv_aload_n hx hb d_Lm_resolve_91 rfl (lv_at hl 1 rfl) ?_
            refine lv_bipush (v := (-4)) hx hb d_Lm_resolve_92 (by decide) ?_
            refine lv_bipush (v := (-3)) hx hb d_Lm_resolve_94 (by decide) ?_
            refine ll_callvv cx hA hX (c_Lm_come l D h cI cZ _ _ _ _ hG) (cw_Lm_95 cx.1.2.2.2.2 (ll_hR (by omega) (by decide))) (va_recv cx.2 hX.1 (ci := 3) (q0 := 0) rfl rfl) rfl hl.1 rfl (Nat.le_of_ble_eq_true rfl) d_Lm_resolve_96 ⟨Nat.zero_le _, Nat.zero_le _⟩ (fun f32 H locs hG hX => ?_)
            refine lv_aload_n hx hb d_Lm_resolve_99 rfl (lv_at hl 1 rfl) ?_
            refine gm_Lm_kept cx hX d_Lm_resolve_100 ?_
            refine lv_iload_n hx hb d_Lm_resolve_103 rfl (lv_at hl 0 rfl) ?_
            refine lv_aload_n hx hb d_Lm_resolve_104 rfl (lv_at hl 1 rfl) ?_
            refine gm_Lm_got cx hX d_Lm_resolve_105 ?_
            refine sm_17 cx hX hG.1 d_Lm_resolve_108 (fun f33 ef33 H locs hX => ?_)
            replace hG := hG.2 f33 ef33
            refine lv_aload_n hx hb d_Lm_resolve_109 rfl (lv_at hl 1 rfl) ?_
            refine gm_Lm_keptCause cx hX d_Lm_resolve_110 ?_
            refine lv_iload_n hx hb d_Lm_resolve_113 rfl (lv_at hl 0 rfl) ?_
            refine lv_aload_n hx hb d_Lm_resolve_114 rfl (lv_at hl 1 rfl) ?_
            refine gm_Lm_got cx hX d_Lm_resolve_115 ?_
            refine lv_if_ge (tgt := 128) hx hb d_Lm_resolve_118 (by decide) (fun c34 => ?_) (fun c34 => ?_)
            · have hG := hG.1 c34
              refine lv_iconst (v := 0) hx hb d_Lm_resolve_128 (by decide) ?_
              refine sm_18 cx hX hG.1 d_Lm_resolve_129 (fun f35 ef35 H locs hX => ?_)
              replace hG := hG.2 f35 ef35
              refine lv_aload_n hx hb d_Lm_resolve_130 rfl (lv_at hl 1 rfl) ?_
              refine lv_aload_n hx hb d_Lm_resolve_131 rfl (lv_at hl 1 rfl) ?_
              refine gm_Lm_kept cx hX d_Lm_resolve_132 ?_
              refine lv_iload_n hx hb d_Lm_resolve_135 rfl (lv_at hl 0 rfl) ?_
              refine lm_17 cx hX hG.1 d_Lm_resolve_136 ?_
              replace hG := hG.2
              refine lv_aload_n hx hb d_Lm_resolve_137 rfl (lv_at hl 1 rfl) ?_
              refine gm_Lm_keptCause cx hX d_Lm_resolve_138 ?_
              refine lv_iload_n hx hb d_Lm_resolve_141 rfl (lv_at hl 0 rfl) ?_
              refine lm_18 cx hX hG.1 d_Lm_resolve_142 ?_
              replace hG := hG.2
              refine ll_callvv cx hA hX (c_Lm_come l D h cI cZ _ _ _ _ hG) (cw_Lm_95 cx.1.2.2.2.2 (ll_hR (by omega) (by decide))) (va_recv cx.2 hX.1 (ci := 3) (q0 := 0) rfl rfl) rfl hl.1 rfl (Nat.le_of_ble_eq_true rfl) d_Lm_resolve_143 ⟨Nat.zero_le _, Nat.zero_le _⟩ (fun f37 H locs hG hX => ?_)
              refine lv_aload_n hx hb d_Lm_resolve_146 rfl (lv_at hl 1 rfl) ?_
              refine ll_callvi cx hA hX (c_Lm_finish l D h cI cZ _ _ hG) (cw_Lm_158 cx.1.2.2.2.2 (ll_hR (by omega) (by decide))) (va_recv cx.2 hX.1 (ci := 3) (q0 := 0) rfl rfl) rfl hl.1 rfl (Nat.le_of_ble_eq_true rfl) d_Lm_resolve_147 ⟨Nat.zero_le _, Nat.zero_le _⟩ (fun r38 f39 H locs hG hX => ?_)
              exact ll_iret cx hr hlk hX hG d_Lm_resolve_150
            · have hG := hG.2 c34
              refine lv_aload_n hx hb d_Lm_resolve_121 rfl (lv_at hl 1 rfl) ?_
              refine gm_Lm_gotCause cx hX d_Lm_resolve_122 ?_
              refine lv_goto (tgt := 129) hx hb d_Lm_resolve_125 (by decide) ?_
              refine sm_18 cx hX hG.1 d_Lm_resolve_129 (fun f40 ef40 H locs hX => ?_)
              replace hG := hG.2 f40 ef40
              refine lv_aload_n hx hb d_Lm_resolve_130 rfl (lv_at hl 1 rfl) ?_
              refine lv_aload_n hx hb d_Lm_resolve_131 rfl (lv_at hl 1 rfl) ?_
              refine gm_Lm_kept cx hX d_Lm_resolve_132 ?_
              refine lv_iload_n hx hb d_Lm_resolve_135 rfl (lv_at hl 0 rfl) ?_
              refine lm_17 cx hX hG.1 d_Lm_resolve_136 ?_
              replace hG := hG.2
              refine lv_aload_n hx hb d_Lm_resolve_137 rfl (lv_at hl 1 rfl) ?_
              refine gm_Lm_keptCause cx hX d_Lm_resolve_138 ?_
              refine lv_iload_n hx hb d_Lm_resolve_141 rfl (lv_at hl 0 rfl) ?_
              refine lm_18 cx hX hG.1 d_Lm_resolve_142 ?_
              replace hG := hG.2
              refine ll_callvv cx hA hX (c_Lm_come l D h cI cZ _ _ _ _ hG) (cw_Lm_95 cx.1.2.2.2.2 (ll_hR (by omega) (by decide))) (va_recv cx.2 hX.1 (ci := 3) (q0 := 0) rfl rfl) rfl hl.1 rfl (Nat.le_of_ble_eq_true rfl) d_Lm_resolve_143 ⟨Nat.zero_le _, Nat.zero_le _⟩ (fun f42 H locs hG hX => ?_)
              refine lv_aload_n hx hb d_Lm_resolve_146 rfl (lv_at hl 1 rfl) ?_
              refine ll_callvi cx hA hX (c_Lm_finish l D h cI cZ _ _ hG) (cw_Lm_158 cx.1.2.2.2.2 (ll_hR (by omega) (by decide))) (va_recv cx.2 hX.1 (ci := 3) (q0 := 0) rfl rfl) rfl hl.1 rfl (Nat.le_of_ble_eq_true rfl) d_Lm_resolve_147 ⟨Nat.zero_le _, Nat.zero_le _⟩ (fun r43 f44 H locs hG hX => ?_)
              exact ll_iret cx hr hlk hX hG d_Lm_resolve_150
      · have hG := hG.2 c7
        refine lv_iconst (v := (-1)) hx hb d_Lm_resolve_36 (by decide) ?_
        exact ll_iret cx hr hlk hX hG d_Lm_resolve_37
def G_Lm_constrain_L (K : Int32 → ll_S → Prop) : Nat → Nat → Int32 → Int32 → Int32 → Int32 → Int32 → Int32 → Int32 → ll_S → Prop
  | 0, _, _, _, _, _, _, _, _, _ => False
  | k + 1, 0, x1, x2, x3, x4, x5, x6, x7, f => (((5 : Int32) ≤ x7 → (G_Lm_constrain_L K k 1 x1 x2 x3 x4 x5 x6 0 f)) ∧ (¬ (5 : Int32) ≤ x7 → (vp_in ((8 * x7) + x3) 40 ∧ (((f 10 (((8 * x7) + x3)).toNatClampNeg) = x4 → (vp_in ((8 * x7) + x3) 40 ∧ ((¬ (f 8 (((8 * x7) + x3)).toNatClampNeg) = 0 → ((x6 ≤ 0 → (vp_in ((8 * x7) + x3) 40 ∧ (G_Lm_constrain_L K k 0 x1 x2 x3 x4 x5 (f 8 (((8 * x7) + x3)).toNatClampNeg) (x7 + 1) f))) ∧ (¬ x6 ≤ 0 → (vp_in ((8 * x7) + x3) 40 ∧ (((f 8 (((8 * x7) + x3)).toNatClampNeg) = x6 → (vp_in ((8 * x7) + x3) 40 ∧ (G_Lm_constrain_L K k 0 x1 x2 x3 x4 x5 (f 8 (((8 * x7) + x3)).toNatClampNeg) (x7 + 1) f))) ∧ (¬ (f 8 (((8 * x7) + x3)).toNatClampNeg) = x6 → K (-9) f)))))) ∧ ((f 8 (((8 * x7) + x3)).toNatClampNeg) = 0 → (G_Lm_constrain_L K k 0 x1 x2 x3 x4 x5 x6 (x7 + 1) f))))) ∧ (¬ (f 10 (((8 * x7) + x3)).toNatClampNeg) = x4 → (vp_in ((8 * x7) + x3) 40 ∧ ((¬ (f 10 (((8 * x7) + x3)).toNatClampNeg) = x5 → (G_Lm_constrain_L K k 0 x1 x2 x3 x4 x5 x6 (x7 + 1) f)) ∧ ((f 10 (((8 * x7) + x3)).toNatClampNeg) = x5 → (vp_in ((8 * x7) + x3) 40 ∧ ((¬ (f 8 (((8 * x7) + x3)).toNatClampNeg) = 0 → ((x6 ≤ 0 → (vp_in ((8 * x7) + x3) 40 ∧ (G_Lm_constrain_L K k 0 x1 x2 x3 x4 x5 (f 8 (((8 * x7) + x3)).toNatClampNeg) (x7 + 1) f))) ∧ (¬ x6 ≤ 0 → (vp_in ((8 * x7) + x3) 40 ∧ (((f 8 (((8 * x7) + x3)).toNatClampNeg) = x6 → (vp_in ((8 * x7) + x3) 40 ∧ (G_Lm_constrain_L K k 0 x1 x2 x3 x4 x5 (f 8 (((8 * x7) + x3)).toNatClampNeg) (x7 + 1) f))) ∧ (¬ (f 8 (((8 * x7) + x3)).toNatClampNeg) = x6 → K (-9) f)))))) ∧ ((f 8 (((8 * x7) + x3)).toNatClampNeg) = 0 → (G_Lm_constrain_L K k 0 x1 x2 x3 x4 x5 x6 (x7 + 1) f))))))))))))
  | k + 1, 1, x1, x2, x3, x4, x5, x6, x7, f => (((5 : Int32) ≤ x7 → K 0 f) ∧ (¬ (5 : Int32) ≤ x7 → (vp_in ((8 * x7) + x3) 40 ∧ (((f 10 (((8 * x7) + x3)).toNatClampNeg) = x4 → ((x5 ≤ x4 → (vp_in ((8 * x7) + x3) 40 ∧ ∀ f19, f19 = ll_w f 10 (((8 * x7) + x3)).toNatClampNeg x5 → (G_Lm_constrain_L K k 1 x1 x2 x3 x4 x5 x6 (x7 + 1) f19))) ∧ (¬ x5 ≤ x4 → (vp_in ((8 * x7) + x3) 40 ∧ ∀ f20, f20 = ll_w f 10 (((8 * x7) + x3)).toNatClampNeg x4 → (G_Lm_constrain_L K k 1 x1 x2 x3 x4 x5 x6 (x7 + 1) f20))))) ∧ (¬ (f 10 (((8 * x7) + x3)).toNatClampNeg) = x4 → (vp_in ((8 * x7) + x3) 40 ∧ ((¬ (f 10 (((8 * x7) + x3)).toNatClampNeg) = x5 → (G_Lm_constrain_L K k 1 x1 x2 x3 x4 x5 x6 (x7 + 1) f)) ∧ ((f 10 (((8 * x7) + x3)).toNatClampNeg) = x5 → ((x5 ≤ x4 → (vp_in ((8 * x7) + x3) 40 ∧ ∀ f23, f23 = ll_w f 10 (((8 * x7) + x3)).toNatClampNeg x5 → (G_Lm_constrain_L K k 1 x1 x2 x3 x4 x5 x6 (x7 + 1) f23))) ∧ (¬ x5 ≤ x4 → (vp_in ((8 * x7) + x3) 40 ∧ ∀ f24, f24 = ll_w f 10 (((8 * x7) + x3)).toNatClampNeg x4 → (G_Lm_constrain_L K k 1 x1 x2 x3 x4 x5 x6 (x7 + 1) f24))))))))))))
  | _ + 1, _ + 2, _, _, _, _, _, _, _, _ => False
def G_Lm_constrain (f : ll_S) (a1 : Int32) (a2 : Int32) (a3 : Int32) (K : Int32 → ll_S → Prop) : Prop := (G_Lm_place f a1 a3 (fun r1 f2 => ((r1 = 0 → K (-1) f2) ∧ (¬ r1 = 0 → (G_Lm_in f2 a2 0 4 (fun r4 f5 => ((¬ r4 = 0 → (vp_in ((8 * a1) + a3) 40 ∧ (vp_in ((8 * a2) + a3) 40 ∧ (∃ k, G_Lm_constrain_L K k 0 a1 a2 a3 (f5 10 (((8 * a1) + a3)).toNatClampNeg) (f5 10 (((8 * a2) + a3)).toNatClampNeg) 0 0 f5)))) ∧ (r4 = 0 → K (-1) f5))))))))
set_option maxHeartbeats 4000000 in
set_option maxRecDepth 100000 in
theorem w_Lm_constrain (l : Launch) {p : Program} {e : Env} {s : State} {m : MethodId} {args : Array Value} {below : List Frame} {meth : Method} {c : Code} {D : va_G} {h : Nat → Nat} {cI cZ : ClassId} {f0 : ll_S} {K : Int32 → ll_S → Prop} (cx : ll_C p m c b_Lm_constrain 9 s args "LoaderLabModel" D [(cI, .int), (cZ, .boolean)]) (hr : meth.sig.returnType = (some .int)) (hlk : meth.locks = false) (hA : ∀ q, s.heap.size ≤ q → va_A (wd_M h cI cZ f0) s.heap.size q) : ∀ (k : Nat), (∀ (x1 : Int32) (x2 : Int32) (x3 : Int32) (x4 : Int32) (x5 : Int32) (x6 : Int32) (x7 : Int32) (f : ll_S) (H : Heap) (locs : List Loc) (ls : Array Slot), G_Lm_constrain_L K k 0 x1 x2 x3 x4 x5 x6 x7 f → ll_X D (wd_M h cI cZ) (va_A (wd_M h cI cZ f0) s.heap.size) s.heap H locs f → lv_has ls 9 [(0, .ref (h 0)), (1, .int x1), (2, .int x2), (3, .int x3), (4, .int x4), (5, .int x5), (6, .int x6), (7, .int x7)] → W p l e (ll_rk 2) s m args below meth c H locs 0 0 (ll_Qi below args s D [(cI, .int), (cZ, .boolean)] (wd_M h cI cZ) f0 K) (F0 m 51 ls [])) ∧ (∀ (x1 : Int32) (x2 : Int32) (x3 : Int32) (x4 : Int32) (x5 : Int32) (x6 : Int32) (x7 : Int32) (f : ll_S) (H : Heap) (locs : List Loc) (ls : Array Slot), G_Lm_constrain_L K k 1 x1 x2 x3 x4 x5 x6 x7 f → ll_X D (wd_M h cI cZ) (va_A (wd_M h cI cZ f0) s.heap.size) s.heap H locs f → lv_has ls 9 [(0, .ref (h 0)), (1, .int x1), (2, .int x2), (3, .int x3), (4, .int x4), (5, .int x5), (6, .int x6), (7, .int x7)] → W p l e (ll_rk 2) s m args below meth c H locs 0 0 (ll_Qi below args s D [(cI, .int), (cZ, .boolean)] (wd_M h cI cZ) f0 K) (F0 m 141 ls [])) := by
  obtain ⟨⟨hx, hb, -, -, -⟩, -⟩ := id cx
  intro k
  induction k with
  | zero => exact ⟨fun _ _ _ _ _ _ _ _ _ _ _ hG => hG.elim, fun _ _ _ _ _ _ _ _ _ _ _ hG => hG.elim⟩
  | succ k ih =>
    refine ⟨?_, ?_⟩
    · intro x1 x2 x3 x4 x5 x6 x7 f H locs ls hG hX hl
      rw [G_Lm_constrain_L] at hG
      refine lv_iload hx hb d_Lm_constrain_51 (lv_at hl 7 rfl) ?_
      refine lv_iconst (v := 5) hx hb d_Lm_constrain_53 (by decide) ?_
      refine lv_icmp_ge (tgt := 138) hx hb d_Lm_constrain_54 (by decide) (fun c7 => ?_) (fun c7 => ?_)
      · have hG := hG.1 c7
        refine lv_iconst (v := 0) hx hb d_Lm_constrain_138 (by decide) ?_
        refine lv_istore (lv' := [(7, .int 0), (0, .ref (h 0)), (1, .int x1), (2, .int x2), (3, .int x3), (4, .int x4), (5, .int x5), (6, .int x6)]) hx hb d_Lm_constrain_139 hl (by decide) rfl (fun ls hl => ?_)
        exact ih.2 _ _ _ _ _ _ _ _ _ _ _ hG hX (lv_sub hl [1, 2, 3, 4, 5, 6, 7, 0] rfl)
      · have hG := hG.2 c7
        refine lv_bipush (v := 8) hx hb d_Lm_constrain_57 (by decide) ?_
        refine lv_iload hx hb d_Lm_constrain_59 (lv_at hl 7 rfl) ?_
        refine lv_imul hx hb d_Lm_constrain_61 ?_
        refine lv_iload_n hx hb d_Lm_constrain_62 rfl (lv_at hl 3 rfl) ?_
        refine lv_iadd hx hb d_Lm_constrain_63 ?_
        refine lv_istore (lv' := [(8, .int ((8 * x7) + x3)), (0, .ref (h 0)), (1, .int x1), (2, .int x2), (3, .int x3), (4, .int x4), (5, .int x5), (6, .int x6), (7, .int x7)]) hx hb d_Lm_constrain_64 hl (by decide) rfl (fun ls hl => ?_)
        refine lv_aload_n hx hb d_Lm_constrain_66 rfl (lv_at hl 1 rfl) ?_
        refine gm_Lm_group cx hX d_Lm_constrain_67 ?_
        refine lv_iload hx hb d_Lm_constrain_70 (lv_at hl 0 rfl) ?_
        refine lm_10 cx hX hG.1 d_Lm_constrain_72 ?_
        replace hG := hG.2
        refine lv_iload hx hb d_Lm_constrain_73 (lv_at hl 5 rfl) ?_
        refine lv_icmp_eq (tgt := 90) hx hb d_Lm_constrain_75 (by decide) (fun c8 => ?_) (fun c8 => ?_)
        · have hG := hG.1 c8
          refine lv_aload_n hx hb d_Lm_constrain_90 rfl (lv_at hl 1 rfl) ?_
          refine gm_Lm_noted cx hX d_Lm_constrain_91 ?_
          refine lv_iload hx hb d_Lm_constrain_94 (lv_at hl 0 rfl) ?_
          refine lm_8 cx hX hG.1 d_Lm_constrain_96 ?_
          replace hG := hG.2
          refine lv_if_ne (tgt := 103) hx hb d_Lm_constrain_97 (by decide) (fun c9 => ?_) (fun c9 => ?_)
          · have hG := hG.1 c9
            refine lv_iload hx hb d_Lm_constrain_103 (lv_at hl 7 rfl) ?_
            refine lv_if_le (tgt := 123) hx hb d_Lm_constrain_105 (by decide) (fun c10 => ?_) (fun c10 => ?_)
            · have hG := hG.1 c10
              refine lv_aload_n hx hb d_Lm_constrain_123 rfl (lv_at hl 1 rfl) ?_
              refine gm_Lm_noted cx hX d_Lm_constrain_124 ?_
              refine lv_iload hx hb d_Lm_constrain_127 (lv_at hl 0 rfl) ?_
              refine lm_8 cx hX hG.1 d_Lm_constrain_129 ?_
              replace hG := hG.2
              refine lv_istore (lv' := [(6, .int (f 8 (((8 * x7) + x3)).toNatClampNeg)), (8, .int ((8 * x7) + x3)), (0, .ref (h 0)), (1, .int x1), (2, .int x2), (3, .int x3), (4, .int x4), (5, .int x5), (7, .int x7)]) hx hb d_Lm_constrain_130 hl (by decide) rfl (fun ls hl => ?_)
              refine lv_iinc (v := (x7 + 1)) (lv' := [(7, .int (x7 + 1)), (6, .int (f 8 (((8 * x7) + x3)).toNatClampNeg)), (8, .int ((8 * x7) + x3)), (0, .ref (h 0)), (1, .int x1), (2, .int x2), (3, .int x3), (4, .int x4), (5, .int x5)]) hx hb d_Lm_constrain_132 hl (k := 8) rfl rfl (by decide) rfl (fun ls hl => ?_)
              refine lv_goto (tgt := 51) hx hb d_Lm_constrain_135 (by decide) ?_
              exact ih.1 _ _ _ _ _ _ _ _ _ _ _ hG hX (lv_sub hl [3, 4, 5, 6, 7, 8, 1, 0] rfl)
            · have hG := hG.2 c10
              refine lv_aload_n hx hb d_Lm_constrain_108 rfl (lv_at hl 1 rfl) ?_
              refine gm_Lm_noted cx hX d_Lm_constrain_109 ?_
              refine lv_iload hx hb d_Lm_constrain_112 (lv_at hl 0 rfl) ?_
              refine lm_8 cx hX hG.1 d_Lm_constrain_114 ?_
              replace hG := hG.2
              refine lv_iload hx hb d_Lm_constrain_115 (lv_at hl 7 rfl) ?_
              refine lv_icmp_eq (tgt := 123) hx hb d_Lm_constrain_117 (by decide) (fun c11 => ?_) (fun c11 => ?_)
              · have hG := hG.1 c11
                refine lv_aload_n hx hb d_Lm_constrain_123 rfl (lv_at hl 1 rfl) ?_
                refine gm_Lm_noted cx hX d_Lm_constrain_124 ?_
                refine lv_iload hx hb d_Lm_constrain_127 (lv_at hl 0 rfl) ?_
                refine lm_8 cx hX hG.1 d_Lm_constrain_129 ?_
                replace hG := hG.2
                refine lv_istore (lv' := [(6, .int (f 8 (((8 * x7) + x3)).toNatClampNeg)), (8, .int ((8 * x7) + x3)), (0, .ref (h 0)), (1, .int x1), (2, .int x2), (3, .int x3), (4, .int x4), (5, .int x5), (7, .int x7)]) hx hb d_Lm_constrain_130 hl (by decide) rfl (fun ls hl => ?_)
                refine lv_iinc (v := (x7 + 1)) (lv' := [(7, .int (x7 + 1)), (6, .int (f 8 (((8 * x7) + x3)).toNatClampNeg)), (8, .int ((8 * x7) + x3)), (0, .ref (h 0)), (1, .int x1), (2, .int x2), (3, .int x3), (4, .int x4), (5, .int x5)]) hx hb d_Lm_constrain_132 hl (k := 8) rfl rfl (by decide) rfl (fun ls hl => ?_)
                refine lv_goto (tgt := 51) hx hb d_Lm_constrain_135 (by decide) ?_
                exact ih.1 _ _ _ _ _ _ _ _ _ _ _ hG hX (lv_sub hl [3, 4, 5, 6, 7, 8, 1, 0] rfl)
              · have hG := hG.2 c11
                refine lv_bipush (v := (-9)) hx hb d_Lm_constrain_120 (by decide) ?_
                exact ll_iret cx hr hlk hX hG d_Lm_constrain_122
          · have hG := hG.2 c9
            refine lv_goto (tgt := 132) hx hb d_Lm_constrain_100 (by decide) ?_
            refine lv_iinc (v := (x7 + 1)) (lv' := [(7, .int (x7 + 1)), (8, .int ((8 * x7) + x3)), (0, .ref (h 0)), (1, .int x1), (2, .int x2), (3, .int x3), (4, .int x4), (5, .int x5), (6, .int x6)]) hx hb d_Lm_constrain_132 hl (k := 8) rfl rfl (by decide) rfl (fun ls hl => ?_)
            refine lv_goto (tgt := 51) hx hb d_Lm_constrain_135 (by decide) ?_
            exact ih.1 _ _ _ _ _ _ _ _ _ _ _ hG hX (lv_sub hl [2, 3, 4, 5, 6, 7, 8, 0] rfl)
        · have hG := hG.2 c8
          refine lv_aload_n hx hb d_Lm_constrain_78 rfl (lv_at hl 1 rfl) ?_
          refine gm_Lm_group cx hX d_Lm_constrain_79 ?_
          refine lv_iload hx hb d_Lm_constrain_82 (lv_at hl 0 rfl) ?_
          refine lm_10 cx hX hG.1 d_Lm_constrain_84 ?_
          replace hG := hG.2
          refine lv_iload hx hb d_Lm_constrain_85 (lv_at hl 6 rfl) ?_
          refine lv_icmp_ne (tgt := 132) hx hb d_Lm_constrain_87 (by decide) (fun c12 => ?_) (fun c12 => ?_)
          · have hG := hG.1 c12
            refine lv_iinc (v := (x7 + 1)) (lv' := [(7, .int (x7 + 1)), (8, .int ((8 * x7) + x3)), (0, .ref (h 0)), (1, .int x1), (2, .int x2), (3, .int x3), (4, .int x4), (5, .int x5), (6, .int x6)]) hx hb d_Lm_constrain_132 hl (k := 8) rfl rfl (by decide) rfl (fun ls hl => ?_)
            refine lv_goto (tgt := 51) hx hb d_Lm_constrain_135 (by decide) ?_
            exact ih.1 _ _ _ _ _ _ _ _ _ _ _ hG hX (lv_sub hl [2, 3, 4, 5, 6, 7, 8, 0] rfl)
          · have hG := hG.2 c12
            refine lv_aload_n hx hb d_Lm_constrain_90 rfl (lv_at hl 1 rfl) ?_
            refine gm_Lm_noted cx hX d_Lm_constrain_91 ?_
            refine lv_iload hx hb d_Lm_constrain_94 (lv_at hl 0 rfl) ?_
            refine lm_8 cx hX hG.1 d_Lm_constrain_96 ?_
            replace hG := hG.2
            refine lv_if_ne (tgt := 103) hx hb d_Lm_constrain_97 (by decide) (fun c13 => ?_) (fun c13 => ?_)
            · have hG := hG.1 c13
              refine lv_iload hx hb d_Lm_constrain_103 (lv_at hl 7 rfl) ?_
              refine lv_if_le (tgt := 123) hx hb d_Lm_constrain_105 (by decide) (fun c14 => ?_) (fun c14 => ?_)
              · have hG := hG.1 c14
                refine lv_aload_n hx hb d_Lm_constrain_123 rfl (lv_at hl 1 rfl) ?_
                refine gm_Lm_noted cx hX d_Lm_constrain_124 ?_
                refine lv_iload hx hb d_Lm_constrain_127 (lv_at hl 0 rfl) ?_
                refine lm_8 cx hX hG.1 d_Lm_constrain_129 ?_
                replace hG := hG.2
                refine lv_istore (lv' := [(6, .int (f 8 (((8 * x7) + x3)).toNatClampNeg)), (8, .int ((8 * x7) + x3)), (0, .ref (h 0)), (1, .int x1), (2, .int x2), (3, .int x3), (4, .int x4), (5, .int x5), (7, .int x7)]) hx hb d_Lm_constrain_130 hl (by decide) rfl (fun ls hl => ?_)
                refine lv_iinc (v := (x7 + 1)) (lv' := [(7, .int (x7 + 1)), (6, .int (f 8 (((8 * x7) + x3)).toNatClampNeg)), (8, .int ((8 * x7) + x3)), (0, .ref (h 0)), (1, .int x1), (2, .int x2), (3, .int x3), (4, .int x4), (5, .int x5)]) hx hb d_Lm_constrain_132 hl (k := 8) rfl rfl (by decide) rfl (fun ls hl => ?_)
                refine lv_goto (tgt := 51) hx hb d_Lm_constrain_135 (by decide) ?_
                exact ih.1 _ _ _ _ _ _ _ _ _ _ _ hG hX (lv_sub hl [3, 4, 5, 6, 7, 8, 1, 0] rfl)
              · have hG := hG.2 c14
                refine lv_aload_n hx hb d_Lm_constrain_108 rfl (lv_at hl 1 rfl) ?_
                refine gm_Lm_noted cx hX d_Lm_constrain_109 ?_
                refine lv_iload hx hb d_Lm_constrain_112 (lv_at hl 0 rfl) ?_
                refine lm_8 cx hX hG.1 d_Lm_constrain_114 ?_
                replace hG := hG.2
                refine lv_iload hx hb d_Lm_constrain_115 (lv_at hl 7 rfl) ?_
                refine lv_icmp_eq (tgt := 123) hx hb d_Lm_constrain_117 (by decide) (fun c15 => ?_) (fun c15 => ?_)
                · have hG := hG.1 c15
                  refine lv_aload_n hx hb d_Lm_constrain_123 rfl (lv_at hl 1 rfl) ?_
                  refine gm_Lm_noted cx hX d_Lm_constrain_124 ?_
                  refine lv_iload hx hb d_Lm_constrain_127 (lv_at hl 0 rfl) ?_
                  refine lm_8 cx hX hG.1 d_Lm_constrain_129 ?_
                  replace hG := hG.2
                  refine lv_istore (lv' := [(6, .int (f 8 (((8 * x7) + x3)).toNatClampNeg)), (8, .int ((8 * x7) + x3)), (0, .ref (h 0)), (1, .int x1), (2, .int x2), (3, .int x3), (4, .int x4), (5, .int x5), (7, .int x7)]) hx hb d_Lm_constrain_130 hl (by decide) rfl (fun ls hl => ?_)
                  refine lv_iinc (v := (x7 + 1)) (lv' := [(7, .int (x7 + 1)), (6, .int (f 8 (((8 * x7) + x3)).toNatClampNeg)), (8, .int ((8 * x7) + x3)), (0, .ref (h 0)), (1, .int x1), (2, .int x2), (3, .int x3), (4, .int x4), (5, .int x5)]) hx hb d_Lm_constrain_132 hl (k := 8) rfl rfl (by decide) rfl (fun ls hl => ?_)
                  refine lv_goto (tgt := 51) hx hb d_Lm_constrain_135 (by decide) ?_
                  exact ih.1 _ _ _ _ _ _ _ _ _ _ _ hG hX (lv_sub hl [3, 4, 5, 6, 7, 8, 1, 0] rfl)
                · have hG := hG.2 c15
                  refine lv_bipush (v := (-9)) hx hb d_Lm_constrain_120 (by decide) ?_
                  exact ll_iret cx hr hlk hX hG d_Lm_constrain_122
            · have hG := hG.2 c13
              refine lv_goto (tgt := 132) hx hb d_Lm_constrain_100 (by decide) ?_
              refine lv_iinc (v := (x7 + 1)) (lv' := [(7, .int (x7 + 1)), (8, .int ((8 * x7) + x3)), (0, .ref (h 0)), (1, .int x1), (2, .int x2), (3, .int x3), (4, .int x4), (5, .int x5), (6, .int x6)]) hx hb d_Lm_constrain_132 hl (k := 8) rfl rfl (by decide) rfl (fun ls hl => ?_)
              refine lv_goto (tgt := 51) hx hb d_Lm_constrain_135 (by decide) ?_
              exact ih.1 _ _ _ _ _ _ _ _ _ _ _ hG hX (lv_sub hl [2, 3, 4, 5, 6, 7, 8, 0] rfl)
    · intro x1 x2 x3 x4 x5 x6 x7 f H locs ls hG hX hl
      rw [G_Lm_constrain_L] at hG
      refine lv_iload hx hb d_Lm_constrain_141 (lv_at hl 7 rfl) ?_
      refine lv_iconst (v := 5) hx hb d_Lm_constrain_143 (by decide) ?_
      refine lv_icmp_ge (tgt := 213) hx hb d_Lm_constrain_144 (by decide) (fun c16 => ?_) (fun c16 => ?_)
      · have hG := hG.1 c16
        refine lv_iconst (v := 0) hx hb d_Lm_constrain_213 (by decide) ?_
        exact ll_iret cx hr hlk hX hG d_Lm_constrain_214
      · have hG := hG.2 c16
        refine lv_aload_n hx hb d_Lm_constrain_147 rfl (lv_at hl 0 rfl) ?_
        refine gm_Lm_group cx hX d_Lm_constrain_148 ?_
        refine lv_bipush (v := 8) hx hb d_Lm_constrain_151 (by decide) ?_
        refine lv_iload hx hb d_Lm_constrain_153 (lv_at hl 7 rfl) ?_
        refine lv_imul hx hb d_Lm_constrain_155 ?_
        refine lv_iload_n hx hb d_Lm_constrain_156 rfl (lv_at hl 3 rfl) ?_
        refine lv_iadd hx hb d_Lm_constrain_157 ?_
        refine lm_10 cx hX hG.1 d_Lm_constrain_158 ?_
        replace hG := hG.2
        refine lv_iload hx hb d_Lm_constrain_159 (lv_at hl 4 rfl) ?_
        refine lv_icmp_eq (tgt := 181) hx hb d_Lm_constrain_161 (by decide) (fun c17 => ?_) (fun c17 => ?_)
        · have hG := hG.1 c17
          refine lv_aload_n hx hb d_Lm_constrain_181 rfl (lv_at hl 0 rfl) ?_
          refine gm_Lm_group cx hX d_Lm_constrain_182 ?_
          refine lv_bipush (v := 8) hx hb d_Lm_constrain_185 (by decide) ?_
          refine lv_iload hx hb d_Lm_constrain_187 (lv_at hl 7 rfl) ?_
          refine lv_imul hx hb d_Lm_constrain_189 ?_
          refine lv_iload_n hx hb d_Lm_constrain_190 rfl (lv_at hl 3 rfl) ?_
          refine lv_iadd hx hb d_Lm_constrain_191 ?_
          refine lv_iload hx hb d_Lm_constrain_192 (lv_at hl 4 rfl) ?_
          refine lv_iload hx hb d_Lm_constrain_194 (lv_at hl 5 rfl) ?_
          refine lv_icmp_ge (tgt := 204) hx hb d_Lm_constrain_196 (by decide) (fun c18 => ?_) (fun c18 => ?_)
          · have hG := hG.1 c18
            refine lv_iload hx hb d_Lm_constrain_204 (lv_at hl 5 rfl) ?_
            refine sm_10 cx hX hG.1 d_Lm_constrain_206 (fun f19 ef19 H locs hX => ?_)
            replace hG := hG.2 f19 ef19
            refine lv_iinc (v := (x7 + 1)) (lv' := [(7, .int (x7 + 1)), (0, .ref (h 0)), (1, .int x1), (2, .int x2), (3, .int x3), (4, .int x4), (5, .int x5), (6, .int x6)]) hx hb d_Lm_constrain_207 hl (k := 7) rfl rfl (by decide) rfl (fun ls hl => ?_)
            refine lv_goto (tgt := 141) hx hb d_Lm_constrain_210 (by decide) ?_
            exact ih.2 _ _ _ _ _ _ _ _ _ _ _ hG hX (lv_sub hl [1, 2, 3, 4, 5, 6, 7, 0] rfl)
          · have hG := hG.2 c18
            refine lv_iload hx hb d_Lm_constrain_199 (lv_at hl 4 rfl) ?_
            refine lv_goto (tgt := 206) hx hb d_Lm_constrain_201 (by decide) ?_
            refine sm_10 cx hX hG.1 d_Lm_constrain_206 (fun f20 ef20 H locs hX => ?_)
            replace hG := hG.2 f20 ef20
            refine lv_iinc (v := (x7 + 1)) (lv' := [(7, .int (x7 + 1)), (0, .ref (h 0)), (1, .int x1), (2, .int x2), (3, .int x3), (4, .int x4), (5, .int x5), (6, .int x6)]) hx hb d_Lm_constrain_207 hl (k := 7) rfl rfl (by decide) rfl (fun ls hl => ?_)
            refine lv_goto (tgt := 141) hx hb d_Lm_constrain_210 (by decide) ?_
            exact ih.2 _ _ _ _ _ _ _ _ _ _ _ hG hX (lv_sub hl [1, 2, 3, 4, 5, 6, 7, 0] rfl)
        · have hG := hG.2 c17
          refine lv_aload_n hx hb d_Lm_constrain_164 rfl (lv_at hl 0 rfl) ?_
          refine gm_Lm_group cx hX d_Lm_constrain_165 ?_
          refine lv_bipush (v := 8) hx hb d_Lm_constrain_168 (by decide) ?_
          refine lv_iload hx hb d_Lm_constrain_170 (lv_at hl 7 rfl) ?_
          refine lv_imul hx hb d_Lm_constrain_172 ?_
          refine lv_iload_n hx hb d_Lm_constrain_173 rfl (lv_at hl 3 rfl) ?_
          refine lv_iadd hx hb d_Lm_constrain_174 ?_
          refine lm_10 cx hX hG.1 d_Lm_constrain_175 ?_
          replace hG := hG.2
          refine lv_iload hx hb d_Lm_constrain_176 (lv_at hl 5 rfl) ?_
          refine lv_icmp_ne (tgt := 207) hx hb d_Lm_constrain_178 (by decide) (fun c21 => ?_) (fun c21 => ?_)
          · have hG := hG.1 c21
            refine lv_iinc (v := (x7 + 1)) (lv' := [(7, .int (x7 + 1)), (0, .ref (h 0)), (1, .int x1), (2, .int x2), (3, .int x3), (4, .int x4), (5, .int x5), (6, .int x6)]) hx hb d_Lm_constrain_207 hl (k := 7) rfl rfl (by decide) rfl (fun ls hl => ?_)
            refine lv_goto (tgt := 141) hx hb d_Lm_constrain_210 (by decide) ?_
            exact ih.2 _ _ _ _ _ _ _ _ _ _ _ hG hX (lv_sub hl [1, 2, 3, 4, 5, 6, 7, 0] rfl)
          · have hG := hG.2 c21
            refine lv_aload_n hx hb d_Lm_constrain_181 rfl (lv_at hl 0 rfl) ?_
            refine gm_Lm_group cx hX d_Lm_constrain_182 ?_
            refine lv_bipush (v := 8) hx hb d_Lm_constrain_185 (by decide) ?_
            refine lv_iload hx hb d_Lm_constrain_187 (lv_at hl 7 rfl) ?_
            refine lv_imul hx hb d_Lm_constrain_189 ?_
            refine lv_iload_n hx hb d_Lm_constrain_190 rfl (lv_at hl 3 rfl) ?_
            refine lv_iadd hx hb d_Lm_constrain_191 ?_
            refine lv_iload hx hb d_Lm_constrain_192 (lv_at hl 4 rfl) ?_
            refine lv_iload hx hb d_Lm_constrain_194 (lv_at hl 5 rfl) ?_
            refine lv_icmp_ge (tgt := 204) hx hb d_Lm_constrain_196 (by decide) (fun c22 => ?_) (fun c22 => ?_)
            · have hG := hG.1 c22
              refine lv_iload hx hb d_Lm_constrain_204 (lv_at hl 5 rfl) ?_
              refine sm_10 cx hX hG.1 d_Lm_constrain_206 (fun f23 ef23 H locs hX => ?_)
              replace hG := hG.2 f23 ef23
              refine lv_iinc (v := (x7 + 1)) (lv' := [(7, .int (x7 + 1)), (0, .ref (h 0)), (1, .int x1), (2, .int x2), (3, .int x3), (4, .int x4), (5, .int x5), (6, .int x6)]) hx hb d_Lm_constrain_207 hl (k := 7) rfl rfl (by decide) rfl (fun ls hl => ?_)
              refine lv_goto (tgt := 141) hx hb d_Lm_constrain_210 (by decide) ?_
              exact ih.2 _ _ _ _ _ _ _ _ _ _ _ hG hX (lv_sub hl [1, 2, 3, 4, 5, 6, 7, 0] rfl)
            · have hG := hG.2 c22
              refine lv_iload hx hb d_Lm_constrain_199 (lv_at hl 4 rfl) ?_
              refine lv_goto (tgt := 206) hx hb d_Lm_constrain_201 (by decide) ?_
              refine sm_10 cx hX hG.1 d_Lm_constrain_206 (fun f24 ef24 H locs hX => ?_)
              replace hG := hG.2 f24 ef24
              refine lv_iinc (v := (x7 + 1)) (lv' := [(7, .int (x7 + 1)), (0, .ref (h 0)), (1, .int x1), (2, .int x2), (3, .int x3), (4, .int x4), (5, .int x5), (6, .int x6)]) hx hb d_Lm_constrain_207 hl (k := 7) rfl rfl (by decide) rfl (fun ls hl => ?_)
              refine lv_goto (tgt := 141) hx hb d_Lm_constrain_210 (by decide) ?_
              exact ih.2 _ _ _ _ _ _ _ _ _ _ _ hG hX (lv_sub hl [1, 2, 3, 4, 5, 6, 7, 0] rfl)
set_option maxHeartbeats 4000000 in
set_option maxRecDepth 100000 in
theorem c_Lm_constrain (l : Launch) (D : va_G) (h : Nat → Nat) (cI cZ : ClassId) (f : ll_S) (a1 : Int32) (a2 : Int32) (a3 : Int32) (K : Int32 → ll_S → Prop) (hG : G_Lm_constrain f a1 a2 a3 K) : ll_Mi l y_Lm_constrain (Cond.code y_Lm_constrain b_Lm_constrain 9 (some .int) :: ll_xt) (ll_rk 2) D [(cI, .int), (cZ, .boolean)] (wd_M h cI cZ) [.ref (h 0), .int a1, .int a2, .int a3] f K := by
  refine ll_starti (own := "LoaderLabModel") (by decide) rfl (Nat.le_of_ble_eq_true rfl) (fun p e s m below meth c ls cx hr hlk hA hX hl => ?_)
  have hl : lv_has ls 9 [(0, .ref (h 0)), (1, .int a1), (2, .int a2), (3, .int a3)] := hl
  obtain ⟨⟨hx, hb, -, -, -⟩, -⟩ := id cx
  unfold G_Lm_constrain at hG
  refine lv_iload_n hx hb d_Lm_constrain_0 rfl (lv_at hl 1 rfl) ?_
  refine lv_iload_n hx hb d_Lm_constrain_1 rfl (lv_at hl 3 rfl) ?_
  refine ll_callsi cx hA hX (c_Lm_place l D h cI cZ _ _ _ _ hG) (cw_Lm_81 cx.1.2.2.2.2 (ll_hR (by omega) (by decide))) rfl hl.1 rfl (Nat.le_of_ble_eq_true rfl) d_Lm_constrain_2 ⟨Nat.zero_le _, Nat.zero_le _⟩ (fun r1 f2 H locs hG hX => ?_)
  refine lv_if_eq (tgt := 17) hx hb d_Lm_constrain_5 (by decide) (fun c3 => ?_) (fun c3 => ?_)
  · have hG := hG.1 c3
    refine lv_iconst (v := (-1)) hx hb d_Lm_constrain_17 (by decide) ?_
    exact ll_iret cx hr hlk hX hG d_Lm_constrain_18
  · have hG := hG.2 c3
    refine lv_iload_n hx hb d_Lm_constrain_8 rfl (lv_at hl 2 rfl) ?_
    refine lv_iconst (v := 0) hx hb d_Lm_constrain_9 (by decide) ?_
    refine lv_iconst (v := 4) hx hb d_Lm_constrain_10 (by decide) ?_
    refine ll_callsi cx hA hX (c_Lm_in l D h cI cZ _ _ _ _ _ hG) (cw_Lm_77 cx.1.2.2.2.2 (ll_hR (by omega) (by decide))) rfl hl.1 rfl (Nat.le_of_ble_eq_true rfl) d_Lm_constrain_11 ⟨Nat.zero_le _, Nat.zero_le _⟩ (fun r4 f5 H locs hG hX => ?_)
    refine lv_if_ne (tgt := 19) hx hb d_Lm_constrain_14 (by decide) (fun c6 => ?_) (fun c6 => ?_)
    · have hG := hG.1 c6
      refine lv_aload_n hx hb d_Lm_constrain_19 rfl (lv_at hl 0 rfl) ?_
      refine gm_Lm_group cx hX d_Lm_constrain_20 ?_
      refine lv_bipush (v := 8) hx hb d_Lm_constrain_23 (by decide) ?_
      refine lv_iload_n hx hb d_Lm_constrain_25 rfl (lv_at hl 1 rfl) ?_
      refine lv_imul hx hb d_Lm_constrain_26 ?_
      refine lv_iload_n hx hb d_Lm_constrain_27 rfl (lv_at hl 3 rfl) ?_
      refine lv_iadd hx hb d_Lm_constrain_28 ?_
      refine lm_10 cx hX hG.1 d_Lm_constrain_29 ?_
      replace hG := hG.2
      refine lv_istore (lv' := [(4, .int (f5 10 (((8 * a1) + a3)).toNatClampNeg)), (0, .ref (h 0)), (1, .int a1), (2, .int a2), (3, .int a3)]) hx hb d_Lm_constrain_30 hl (by decide) rfl (fun ls hl => ?_)
      refine lv_aload_n hx hb d_Lm_constrain_32 rfl (lv_at hl 1 rfl) ?_
      refine gm_Lm_group cx hX d_Lm_constrain_33 ?_
      refine lv_bipush (v := 8) hx hb d_Lm_constrain_36 (by decide) ?_
      refine lv_iload_n hx hb d_Lm_constrain_38 rfl (lv_at hl 3 rfl) ?_
      refine lv_imul hx hb d_Lm_constrain_39 ?_
      refine lv_iload_n hx hb d_Lm_constrain_40 rfl (lv_at hl 4 rfl) ?_
      refine lv_iadd hx hb d_Lm_constrain_41 ?_
      refine lm_10 cx hX hG.1 d_Lm_constrain_42 ?_
      replace hG := hG.2
      refine lv_istore (lv' := [(5, .int (f5 10 (((8 * a2) + a3)).toNatClampNeg)), (4, .int (f5 10 (((8 * a1) + a3)).toNatClampNeg)), (0, .ref (h 0)), (1, .int a1), (2, .int a2), (3, .int a3)]) hx hb d_Lm_constrain_43 hl (by decide) rfl (fun ls hl => ?_)
      refine lv_iconst (v := 0) hx hb d_Lm_constrain_45 (by decide) ?_
      refine lv_istore (lv' := [(6, .int 0), (5, .int (f5 10 (((8 * a2) + a3)).toNatClampNeg)), (4, .int (f5 10 (((8 * a1) + a3)).toNatClampNeg)), (0, .ref (h 0)), (1, .int a1), (2, .int a2), (3, .int a3)]) hx hb d_Lm_constrain_46 hl (by decide) rfl (fun ls hl => ?_)
      refine lv_iconst (v := 0) hx hb d_Lm_constrain_48 (by decide) ?_
      refine lv_istore (lv' := [(7, .int 0), (6, .int 0), (5, .int (f5 10 (((8 * a2) + a3)).toNatClampNeg)), (4, .int (f5 10 (((8 * a1) + a3)).toNatClampNeg)), (0, .ref (h 0)), (1, .int a1), (2, .int a2), (3, .int a3)]) hx hb d_Lm_constrain_49 hl (by decide) rfl (fun ls hl => ?_)
      obtain ⟨kf, hG⟩ := hG
      exact (w_Lm_constrain l cx hr hlk hA kf).1 _ _ _ _ _ _ _ _ _ _ _ hG hX (lv_sub hl [4, 5, 6, 7, 3, 2, 1, 0] rfl)
    · have hG := hG.2 c6
      refine lv_iconst (v := (-1)) hx hb d_Lm_constrain_17 (by decide) ?_
      exact ll_iret cx hr hlk hX hG d_Lm_constrain_18
def G_Lm_agree (f : ll_S) (a1 : Int32) (a2 : Int32) (a3 : Int32) (K : Int32 → ll_S → Prop) : Prop := (G_Lm_place f a1 a3 (fun r1 f2 => ((r1 = 0 → K 0 f2) ∧ (¬ r1 = 0 → (G_Lm_in f2 a2 0 4 (fun r4 f5 => ((r4 = 0 → K 0 f5) ∧ (¬ r4 = 0 → (vp_in ((8 * a1) + a3) 40 ∧ (vp_in ((8 * a2) + a3) 40 ∧ ((¬ (f5 10 (((8 * a1) + a3)).toNatClampNeg) = (f5 10 (((8 * a2) + a3)).toNatClampNeg) → K 0 f5) ∧ ((f5 10 (((8 * a1) + a3)).toNatClampNeg) = (f5 10 (((8 * a2) + a3)).toNatClampNeg) → K 1 f5))))))))))))
set_option maxHeartbeats 4000000 in
set_option maxRecDepth 100000 in
theorem c_Lm_agree (l : Launch) (D : va_G) (h : Nat → Nat) (cI cZ : ClassId) (f : ll_S) (a1 : Int32) (a2 : Int32) (a3 : Int32) (K : Int32 → ll_S → Prop) (hG : G_Lm_agree f a1 a2 a3 K) : ll_Mi l y_Lm_agree (Cond.code y_Lm_agree b_Lm_agree 4 (some .boolean) :: ll_xt) (ll_rk 2) D [(cI, .int), (cZ, .boolean)] (wd_M h cI cZ) [.ref (h 0), .int a1, .int a2, .int a3] f K := by
  refine ll_starti (own := "LoaderLabModel") (by decide) rfl (Nat.le_of_ble_eq_true rfl) (fun p e s m below meth c ls cx hr hlk hA hX hl => ?_)
  have hl : lv_has ls 4 [(0, .ref (h 0)), (1, .int a1), (2, .int a2), (3, .int a3)] := hl
  obtain ⟨⟨hx, hb, -, -, -⟩, -⟩ := id cx
  unfold G_Lm_agree at hG
  refine lv_iload_n hx hb d_Lm_agree_0 rfl (lv_at hl 1 rfl) ?_
  refine lv_iload_n hx hb d_Lm_agree_1 rfl (lv_at hl 3 rfl) ?_
  refine ll_callsi cx hA hX (c_Lm_place l D h cI cZ _ _ _ _ hG) (cw_Lm_81 cx.1.2.2.2.2 (ll_hR (by omega) (by decide))) rfl hl.1 rfl (Nat.le_of_ble_eq_true rfl) d_Lm_agree_2 ⟨Nat.zero_le _, Nat.zero_le _⟩ (fun r1 f2 H locs hG hX => ?_)
  refine lv_if_eq (tgt := 46) hx hb d_Lm_agree_5 (by decide) (fun c3 => ?_) (fun c3 => ?_)
  · have hG := hG.1 c3
    refine lv_iconst (v := 0) hx hb d_Lm_agree_46 (by decide) ?_
    exact ll_zret cx hr hlk hX (by decide) hG d_Lm_agree_47
  · have hG := hG.2 c3
    refine lv_iload_n hx hb d_Lm_agree_8 rfl (lv_at hl 2 rfl) ?_
    refine lv_iconst (v := 0) hx hb d_Lm_agree_9 (by decide) ?_
    refine lv_iconst (v := 4) hx hb d_Lm_agree_10 (by decide) ?_
    refine ll_callsi cx hA hX (c_Lm_in l D h cI cZ _ _ _ _ _ hG) (cw_Lm_77 cx.1.2.2.2.2 (ll_hR (by omega) (by decide))) rfl hl.1 rfl (Nat.le_of_ble_eq_true rfl) d_Lm_agree_11 ⟨Nat.zero_le _, Nat.zero_le _⟩ (fun r4 f5 H locs hG hX => ?_)
    refine lv_if_eq (tgt := 46) hx hb d_Lm_agree_14 (by decide) (fun c6 => ?_) (fun c6 => ?_)
    · have hG := hG.1 c6
      refine lv_iconst (v := 0) hx hb d_Lm_agree_46 (by decide) ?_
      exact ll_zret cx hr hlk hX (by decide) hG d_Lm_agree_47
    · have hG := hG.2 c6
      refine lv_aload_n hx hb d_Lm_agree_17 rfl (lv_at hl 0 rfl) ?_
      refine gm_Lm_group cx hX d_Lm_agree_18 ?_
      refine lv_bipush (v := 8) hx hb d_Lm_agree_21 (by decide) ?_
      refine lv_iload_n hx hb d_Lm_agree_23 rfl (lv_at hl 1 rfl) ?_
      refine lv_imul hx hb d_Lm_agree_24 ?_
      refine lv_iload_n hx hb d_Lm_agree_25 rfl (lv_at hl 3 rfl) ?_
      refine lv_iadd hx hb d_Lm_agree_26 ?_
      refine lm_10 cx hX hG.1 d_Lm_agree_27 ?_
      replace hG := hG.2
      refine lv_aload_n hx hb d_Lm_agree_28 rfl (lv_at hl 0 rfl) ?_
      refine gm_Lm_group cx hX d_Lm_agree_29 ?_
      refine lv_bipush (v := 8) hx hb d_Lm_agree_32 (by decide) ?_
      refine lv_iload_n hx hb d_Lm_agree_34 rfl (lv_at hl 2 rfl) ?_
      refine lv_imul hx hb d_Lm_agree_35 ?_
      refine lv_iload_n hx hb d_Lm_agree_36 rfl (lv_at hl 3 rfl) ?_
      refine lv_iadd hx hb d_Lm_agree_37 ?_
      refine lm_10 cx hX hG.1 d_Lm_agree_38 ?_
      replace hG := hG.2
      refine lv_icmp_ne (tgt := 46) hx hb d_Lm_agree_39 (by decide) (fun c7 => ?_) (fun c7 => ?_)
      · have hG := hG.1 c7
        refine lv_iconst (v := 0) hx hb d_Lm_agree_46 (by decide) ?_
        exact ll_zret cx hr hlk hX (by decide) hG d_Lm_agree_47
      · have hG := hG.2 c7
        refine lv_iconst (v := 1) hx hb d_Lm_agree_42 (by decide) ?_
        refine lv_goto (tgt := 47) hx hb d_Lm_agree_43 (by decide) ?_
        exact ll_zret cx hr hlk hX (by decide) hG d_Lm_agree_47
def G_Lm_cause (f : ll_S) (a1 : Int32) (K : Int32 → ll_S → Prop) : Prop := ((¬ a1 = 0 → ((¬ a1 = (1 : Int32) → K (-1) f) ∧ (a1 = (1 : Int32) → (((f 28 0) = 0 → K (-1) f) ∧ (¬ (f 28 0) = 0 → K (f 28 0) f))))) ∧ (a1 = 0 → (((f 27 0) = 0 → ((¬ a1 = (1 : Int32) → K (-1) f) ∧ (a1 = (1 : Int32) → (((f 28 0) = 0 → K (-1) f) ∧ (¬ (f 28 0) = 0 → K (f 28 0) f))))) ∧ (¬ (f 27 0) = 0 → K (f 27 0) f))))
set_option maxHeartbeats 4000000 in
set_option maxRecDepth 100000 in
theorem c_Lm_cause (l : Launch) (D : va_G) (h : Nat → Nat) (cI cZ : ClassId) (f : ll_S) (a1 : Int32) (K : Int32 → ll_S → Prop) (hG : G_Lm_cause f a1 K) : ll_Mi l y_Lm_cause (Cond.code y_Lm_cause b_Lm_cause 2 (some .int) :: ll_xt) (ll_rk 0) D [(cI, .int), (cZ, .boolean)] (wd_M h cI cZ) [.ref (h 0), .int a1] f K := by
  refine ll_starti (own := "LoaderLabModel") (by decide) rfl (Nat.le_of_ble_eq_true rfl) (fun p e s m below meth c ls cx hr hlk hA hX hl => ?_)
  have hl : lv_has ls 2 [(0, .ref (h 0)), (1, .int a1)] := hl
  obtain ⟨⟨hx, hb, -, -, -⟩, -⟩ := id cx
  unfold G_Lm_cause at hG
  refine lv_iload_n hx hb d_Lm_cause_0 rfl (lv_at hl 1 rfl) ?_
  refine lv_if_ne (tgt := 16) hx hb d_Lm_cause_1 (by decide) (fun c1 => ?_) (fun c1 => ?_)
  · have hG := hG.1 c1
    refine lv_iload_n hx hb d_Lm_cause_16 rfl (lv_at hl 1 rfl) ?_
    refine lv_iconst (v := 1) hx hb d_Lm_cause_17 (by decide) ?_
    refine lv_icmp_ne (tgt := 35) hx hb d_Lm_cause_18 (by decide) (fun c2 => ?_) (fun c2 => ?_)
    · have hG := hG.1 c2
      refine lv_iconst (v := (-1)) hx hb d_Lm_cause_35 (by decide) ?_
      exact ll_iret cx hr hlk hX hG d_Lm_cause_36
    · have hG := hG.2 c2
      refine lv_aload_n hx hb d_Lm_cause_21 rfl (lv_at hl 0 rfl) ?_
      refine gm_Lm_lastCause cx hX d_Lm_cause_22 ?_
      refine lv_if_eq (tgt := 35) hx hb d_Lm_cause_25 (by decide) (fun c3 => ?_) (fun c3 => ?_)
      · have hG := hG.1 c3
        refine lv_iconst (v := (-1)) hx hb d_Lm_cause_35 (by decide) ?_
        exact ll_iret cx hr hlk hX hG d_Lm_cause_36
      · have hG := hG.2 c3
        refine lv_aload_n hx hb d_Lm_cause_28 rfl (lv_at hl 0 rfl) ?_
        refine gm_Lm_lastCause cx hX d_Lm_cause_29 ?_
        refine lv_goto (tgt := 36) hx hb d_Lm_cause_32 (by decide) ?_
        exact ll_iret cx hr hlk hX hG d_Lm_cause_36
  · have hG := hG.2 c1
    refine lv_aload_n hx hb d_Lm_cause_4 rfl (lv_at hl 0 rfl) ?_
    refine gm_Lm_lastCode cx hX d_Lm_cause_5 ?_
    refine lv_if_eq (tgt := 16) hx hb d_Lm_cause_8 (by decide) (fun c4 => ?_) (fun c4 => ?_)
    · have hG := hG.1 c4
      refine lv_iload_n hx hb d_Lm_cause_16 rfl (lv_at hl 1 rfl) ?_
      refine lv_iconst (v := 1) hx hb d_Lm_cause_17 (by decide) ?_
      refine lv_icmp_ne (tgt := 35) hx hb d_Lm_cause_18 (by decide) (fun c5 => ?_) (fun c5 => ?_)
      · have hG := hG.1 c5
        refine lv_iconst (v := (-1)) hx hb d_Lm_cause_35 (by decide) ?_
        exact ll_iret cx hr hlk hX hG d_Lm_cause_36
      · have hG := hG.2 c5
        refine lv_aload_n hx hb d_Lm_cause_21 rfl (lv_at hl 0 rfl) ?_
        refine gm_Lm_lastCause cx hX d_Lm_cause_22 ?_
        refine lv_if_eq (tgt := 35) hx hb d_Lm_cause_25 (by decide) (fun c6 => ?_) (fun c6 => ?_)
        · have hG := hG.1 c6
          refine lv_iconst (v := (-1)) hx hb d_Lm_cause_35 (by decide) ?_
          exact ll_iret cx hr hlk hX hG d_Lm_cause_36
        · have hG := hG.2 c6
          refine lv_aload_n hx hb d_Lm_cause_28 rfl (lv_at hl 0 rfl) ?_
          refine gm_Lm_lastCause cx hX d_Lm_cause_29 ?_
          refine lv_goto (tgt := 36) hx hb d_Lm_cause_32 (by decide) ?_
          exact ll_iret cx hr hlk hX hG d_Lm_cause_36
    · have hG := hG.2 c4
      refine lv_aload_n hx hb d_Lm_cause_11 rfl (lv_at hl 0 rfl) ?_
      refine gm_Lm_lastCode cx hX d_Lm_cause_12 ?_
      exact ll_iret cx hr hlk hX hG d_Lm_cause_15
def G_Lm_requests (f : ll_S) (K : Int32 → ll_S → Prop) : Prop := K (f 26 0) f
set_option maxHeartbeats 4000000 in
set_option maxRecDepth 100000 in
theorem c_Lm_requests (l : Launch) (D : va_G) (h : Nat → Nat) (cI cZ : ClassId) (f : ll_S) (K : Int32 → ll_S → Prop) (hG : G_Lm_requests f K) : ll_Mi l y_Lm_requests (Cond.code y_Lm_requests b_Lm_requests 1 (some .int) :: ll_xt) (ll_rk 0) D [(cI, .int), (cZ, .boolean)] (wd_M h cI cZ) [.ref (h 0)] f K := by
  refine ll_starti (own := "LoaderLabModel") (by decide) rfl (Nat.le_of_ble_eq_true rfl) (fun p e s m below meth c ls cx hr hlk hA hX hl => ?_)
  have hl : lv_has ls 1 [(0, .ref (h 0))] := hl
  obtain ⟨⟨hx, hb, -, -, -⟩, -⟩ := id cx
  unfold G_Lm_requests at hG
  refine lv_aload_n hx hb d_Lm_requests_0 rfl (lv_at hl 0 rfl) ?_
  refine gm_Lm_begun cx hX d_Lm_requests_1 ?_
  exact ll_iret cx hr hlk hX hG d_Lm_requests_4
def G_Lm_recorded (f : ll_S) (a1 : Int32) (a2 : Int32) (K : Int32 → ll_S → Prop) : Prop := (G_Lm_place f a1 a2 (fun r1 f2 => ((r1 = 0 → K (-1) f2) ∧ (¬ r1 = 0 → (vp_in ((8 * a1) + a2) 40 ∧ K (f2 8 (((8 * a1) + a2)).toNatClampNeg) f2)))))
set_option maxHeartbeats 4000000 in
set_option maxRecDepth 100000 in
theorem c_Lm_recorded (l : Launch) (D : va_G) (h : Nat → Nat) (cI cZ : ClassId) (f : ll_S) (a1 : Int32) (a2 : Int32) (K : Int32 → ll_S → Prop) (hG : G_Lm_recorded f a1 a2 K) : ll_Mi l y_Lm_recorded (Cond.code y_Lm_recorded b_Lm_recorded 3 (some .int) :: ll_xt) (ll_rk 2) D [(cI, .int), (cZ, .boolean)] (wd_M h cI cZ) [.ref (h 0), .int a1, .int a2] f K := by
  refine ll_starti (own := "LoaderLabModel") (by decide) rfl (Nat.le_of_ble_eq_true rfl) (fun p e s m below meth c ls cx hr hlk hA hX hl => ?_)
  have hl : lv_has ls 3 [(0, .ref (h 0)), (1, .int a1), (2, .int a2)] := hl
  obtain ⟨⟨hx, hb, -, -, -⟩, -⟩ := id cx
  unfold G_Lm_recorded at hG
  refine lv_iload_n hx hb d_Lm_recorded_0 rfl (lv_at hl 1 rfl) ?_
  refine lv_iload_n hx hb d_Lm_recorded_1 rfl (lv_at hl 2 rfl) ?_
  refine ll_callsi cx hA hX (c_Lm_place l D h cI cZ _ _ _ _ hG) (cw_Lm_81 cx.1.2.2.2.2 (ll_hR (by omega) (by decide))) rfl hl.1 rfl (Nat.le_of_ble_eq_true rfl) d_Lm_recorded_2 ⟨Nat.zero_le _, Nat.zero_le _⟩ (fun r1 f2 H locs hG hX => ?_)
  refine lv_if_eq (tgt := 22) hx hb d_Lm_recorded_5 (by decide) (fun c3 => ?_) (fun c3 => ?_)
  · have hG := hG.1 c3
    refine lv_iconst (v := (-1)) hx hb d_Lm_recorded_22 (by decide) ?_
    exact ll_iret cx hr hlk hX hG d_Lm_recorded_23
  · have hG := hG.2 c3
    refine lv_aload_n hx hb d_Lm_recorded_8 rfl (lv_at hl 0 rfl) ?_
    refine gm_Lm_noted cx hX d_Lm_recorded_9 ?_
    refine lv_bipush (v := 8) hx hb d_Lm_recorded_12 (by decide) ?_
    refine lv_iload_n hx hb d_Lm_recorded_14 rfl (lv_at hl 1 rfl) ?_
    refine lv_imul hx hb d_Lm_recorded_15 ?_
    refine lv_iload_n hx hb d_Lm_recorded_16 rfl (lv_at hl 2 rfl) ?_
    refine lv_iadd hx hb d_Lm_recorded_17 ?_
    refine lm_8 cx hX hG.1 d_Lm_recorded_18 ?_
    replace hG := hG.2
    refine lv_goto (tgt := 23) hx hb d_Lm_recorded_19 (by decide) ?_
    exact ll_iret cx hr hlk hX hG d_Lm_recorded_23
def G_Lm_of (f : ll_S) (a1 : Int32) (a2 : Int32) (K : Int32 → ll_S → Prop) : Prop := (G_Lm_in f a1 1 (f 22 0) (fun r1 f2 => ((¬ r1 = 0 → ((a2 = 0 → (vp_in a1 31 ∧ K (f2 11 (a1).toNatClampNeg) f2)) ∧ (¬ a2 = 0 → ((a2 = 1 → (vp_in a1 31 ∧ K (f2 12 (a1).toNatClampNeg) f2)) ∧ (¬ a2 = 1 → ((a2 = 2 → (vp_in a1 31 ∧ K (f2 13 (a1).toNatClampNeg) f2)) ∧ (¬ a2 = 2 → ((a2 = 3 → (vp_in a1 31 ∧ K (f2 14 (a1).toNatClampNeg) f2)) ∧ (¬ a2 = 3 → ((a2 = 4 → (vp_in a1 31 ∧ K (f2 15 (a1).toNatClampNeg) f2)) ∧ (¬ a2 = 4 → ((a2 = 5 → (vp_in (((4 * a1) + a2) - 9) 124 ∧ K (f2 17 ((((4 * a1) + a2) - 9)).toNatClampNeg) f2)) ∧ (¬ a2 = 5 → ((a2 = 6 → (vp_in (((4 * a1) + a2) - 9) 124 ∧ K (f2 17 ((((4 * a1) + a2) - 9)).toNatClampNeg) f2)) ∧ (¬ a2 = 6 → ((a2 = 7 → (vp_in (((4 * a1) + a2) - 9) 124 ∧ K (f2 17 ((((4 * a1) + a2) - 9)).toNatClampNeg) f2)) ∧ (¬ a2 = 7 → ((a2 = 8 → (vp_in (((4 * a1) + a2) - 9) 124 ∧ K (f2 17 ((((4 * a1) + a2) - 9)).toNatClampNeg) f2)) ∧ (¬ a2 = 8 → K (-1) f2))))))))))))))))))) ∧ (r1 = 0 → K (-1) f2))))
set_option maxHeartbeats 4000000 in
set_option maxRecDepth 100000 in
theorem c_Lm_of (l : Launch) (D : va_G) (h : Nat → Nat) (cI cZ : ClassId) (f : ll_S) (a1 : Int32) (a2 : Int32) (K : Int32 → ll_S → Prop) (hG : G_Lm_of f a1 a2 K) : ll_Mi l y_Lm_of (Cond.code y_Lm_of b_Lm_of 3 (some .int) :: ll_xt) (ll_rk 1) D [(cI, .int), (cZ, .boolean)] (wd_M h cI cZ) [.ref (h 0), .int a1, .int a2] f K := by
  refine ll_starti (own := "LoaderLabModel") (by decide) rfl (Nat.le_of_ble_eq_true rfl) (fun p e s m below meth c ls cx hr hlk hA hX hl => ?_)
  have hl : lv_has ls 3 [(0, .ref (h 0)), (1, .int a1), (2, .int a2)] := hl
  obtain ⟨⟨hx, hb, -, -, -⟩, -⟩ := id cx
  unfold G_Lm_of at hG
  refine lv_iload_n hx hb d_Lm_of_0 rfl (lv_at hl 1 rfl) ?_
  refine lv_iconst (v := 1) hx hb d_Lm_of_1 (by decide) ?_
  refine lv_aload_n hx hb d_Lm_of_2 rfl (lv_at hl 0 rfl) ?_
  refine gm_Lm_classes cx hX d_Lm_of_3 ?_
  refine ll_callsi cx hA hX (c_Lm_in l D h cI cZ _ _ _ _ _ hG) (cw_Lm_77 cx.1.2.2.2.2 (ll_hR (by omega) (by decide))) rfl hl.1 rfl (Nat.le_of_ble_eq_true rfl) d_Lm_of_6 ⟨Nat.zero_le _, Nat.zero_le _⟩ (fun r1 f2 H locs hG hX => ?_)
  refine lv_if_ne (tgt := 14) hx hb d_Lm_of_9 (by decide) (fun c3 => ?_) (fun c3 => ?_)
  · have hG := hG.1 c3
    refine lv_iload_n hx hb d_Lm_of_14 rfl (lv_at hl 2 rfl) ?_
    by_cases c4 : a2 = 0
    · refine lv_tableIn (tgt := 64) hx hb d_Lm_of_15 (by rw [c4]; decide) (by rw [c4]; decide) (by rw [c4]; rfl) (by decide) ?_
      have hG := hG.1 c4
      refine lv_aload_n hx hb d_Lm_of_64 rfl (lv_at hl 0 rfl) ?_
      refine gm_Lm_name cx hX d_Lm_of_65 ?_
      refine lv_iload_n hx hb d_Lm_of_68 rfl (lv_at hl 1 rfl) ?_
      refine lm_11 cx hX hG.1 d_Lm_of_69 ?_
      replace hG := hG.2
      exact ll_iret cx hr hlk hX hG d_Lm_of_70
    replace hG := hG.2 c4
    by_cases c5 : a2 = 1
    · refine lv_tableIn (tgt := 71) hx hb d_Lm_of_15 (by rw [c5]; decide) (by rw [c5]; decide) (by rw [c5]; rfl) (by decide) ?_
      have hG := hG.1 c5
      refine lv_aload_n hx hb d_Lm_of_71 rfl (lv_at hl 0 rfl) ?_
      refine gm_Lm_owner cx hX d_Lm_of_72 ?_
      refine lv_iload_n hx hb d_Lm_of_75 rfl (lv_at hl 1 rfl) ?_
      refine lm_12 cx hX hG.1 d_Lm_of_76 ?_
      replace hG := hG.2
      exact ll_iret cx hr hlk hX hG d_Lm_of_77
    replace hG := hG.2 c5
    by_cases c6 : a2 = 2
    · refine lv_tableIn (tgt := 78) hx hb d_Lm_of_15 (by rw [c6]; decide) (by rw [c6]; decide) (by rw [c6]; rfl) (by decide) ?_
      have hG := hG.1 c6
      refine lv_aload_n hx hb d_Lm_of_78 rfl (lv_at hl 0 rfl) ?_
      refine gm_Lm_parentOf cx hX d_Lm_of_79 ?_
      refine lv_iload_n hx hb d_Lm_of_82 rfl (lv_at hl 1 rfl) ?_
      refine lm_13 cx hX hG.1 d_Lm_of_83 ?_
      replace hG := hG.2
      exact ll_iret cx hr hlk hX hG d_Lm_of_84
    replace hG := hG.2 c6
    by_cases c7 : a2 = 3
    · refine lv_tableIn (tgt := 85) hx hb d_Lm_of_15 (by rw [c7]; decide) (by rw [c7]; decide) (by rw [c7]; rfl) (by decide) ?_
      have hG := hG.1 c7
      refine lv_aload_n hx hb d_Lm_of_85 rfl (lv_at hl 0 rfl) ?_
      refine gm_Lm_interfaceOf cx hX d_Lm_of_86 ?_
      refine lv_iload_n hx hb d_Lm_of_89 rfl (lv_at hl 1 rfl) ?_
      refine lm_14 cx hX hG.1 d_Lm_of_90 ?_
      replace hG := hG.2
      exact ll_iret cx hr hlk hX hG d_Lm_of_91
    replace hG := hG.2 c7
    by_cases c8 : a2 = 4
    · refine lv_tableIn (tgt := 92) hx hb d_Lm_of_15 (by rw [c8]; decide) (by rw [c8]; decide) (by rw [c8]; rfl) (by decide) ?_
      have hG := hG.1 c8
      refine lv_aload_n hx hb d_Lm_of_92 rfl (lv_at hl 0 rfl) ?_
      refine gm_Lm_marks cx hX d_Lm_of_93 ?_
      refine lv_iload_n hx hb d_Lm_of_96 rfl (lv_at hl 1 rfl) ?_
      refine lm_15 cx hX hG.1 d_Lm_of_97 ?_
      replace hG := hG.2
      exact ll_iret cx hr hlk hX hG d_Lm_of_98
    replace hG := hG.2 c8
    by_cases c9 : a2 = 5
    · refine lv_tableIn (tgt := 99) hx hb d_Lm_of_15 (by rw [c9]; decide) (by rw [c9]; decide) (by rw [c9]; rfl) (by decide) ?_
      have hG := hG.1 c9
      refine lv_aload_n hx hb d_Lm_of_99 rfl (lv_at hl 0 rfl) ?_
      refine gm_Lm_kept cx hX d_Lm_of_100 ?_
      refine lv_iconst (v := 4) hx hb d_Lm_of_103 (by decide) ?_
      refine lv_iload_n hx hb d_Lm_of_104 rfl (lv_at hl 1 rfl) ?_
      refine lv_imul hx hb d_Lm_of_105 ?_
      refine lv_iload_n hx hb d_Lm_of_106 rfl (lv_at hl 2 rfl) ?_
      refine lv_iadd hx hb d_Lm_of_107 ?_
      refine lv_bipush (v := 9) hx hb d_Lm_of_108 (by decide) ?_
      refine lv_isub hx hb d_Lm_of_110 ?_
      refine lm_17 cx hX hG.1 d_Lm_of_111 ?_
      replace hG := hG.2
      exact ll_iret cx hr hlk hX hG d_Lm_of_112
    replace hG := hG.2 c9
    by_cases c10 : a2 = 6
    · refine lv_tableIn (tgt := 99) hx hb d_Lm_of_15 (by rw [c10]; decide) (by rw [c10]; decide) (by rw [c10]; rfl) (by decide) ?_
      have hG := hG.1 c10
      refine lv_aload_n hx hb d_Lm_of_99 rfl (lv_at hl 0 rfl) ?_
      refine gm_Lm_kept cx hX d_Lm_of_100 ?_
      refine lv_iconst (v := 4) hx hb d_Lm_of_103 (by decide) ?_
      refine lv_iload_n hx hb d_Lm_of_104 rfl (lv_at hl 1 rfl) ?_
      refine lv_imul hx hb d_Lm_of_105 ?_
      refine lv_iload_n hx hb d_Lm_of_106 rfl (lv_at hl 2 rfl) ?_
      refine lv_iadd hx hb d_Lm_of_107 ?_
      refine lv_bipush (v := 9) hx hb d_Lm_of_108 (by decide) ?_
      refine lv_isub hx hb d_Lm_of_110 ?_
      refine lm_17 cx hX hG.1 d_Lm_of_111 ?_
      replace hG := hG.2
      exact ll_iret cx hr hlk hX hG d_Lm_of_112
    replace hG := hG.2 c10
    by_cases c11 : a2 = 7
    · refine lv_tableIn (tgt := 99) hx hb d_Lm_of_15 (by rw [c11]; decide) (by rw [c11]; decide) (by rw [c11]; rfl) (by decide) ?_
      have hG := hG.1 c11
      refine lv_aload_n hx hb d_Lm_of_99 rfl (lv_at hl 0 rfl) ?_
      refine gm_Lm_kept cx hX d_Lm_of_100 ?_
      refine lv_iconst (v := 4) hx hb d_Lm_of_103 (by decide) ?_
      refine lv_iload_n hx hb d_Lm_of_104 rfl (lv_at hl 1 rfl) ?_
      refine lv_imul hx hb d_Lm_of_105 ?_
      refine lv_iload_n hx hb d_Lm_of_106 rfl (lv_at hl 2 rfl) ?_
      refine lv_iadd hx hb d_Lm_of_107 ?_
      refine lv_bipush (v := 9) hx hb d_Lm_of_108 (by decide) ?_
      refine lv_isub hx hb d_Lm_of_110 ?_
      refine lm_17 cx hX hG.1 d_Lm_of_111 ?_
      replace hG := hG.2
      exact ll_iret cx hr hlk hX hG d_Lm_of_112
    replace hG := hG.2 c11
    by_cases c12 : a2 = 8
    · refine lv_tableIn (tgt := 99) hx hb d_Lm_of_15 (by rw [c12]; decide) (by rw [c12]; decide) (by rw [c12]; rfl) (by decide) ?_
      have hG := hG.1 c12
      refine lv_aload_n hx hb d_Lm_of_99 rfl (lv_at hl 0 rfl) ?_
      refine gm_Lm_kept cx hX d_Lm_of_100 ?_
      refine lv_iconst (v := 4) hx hb d_Lm_of_103 (by decide) ?_
      refine lv_iload_n hx hb d_Lm_of_104 rfl (lv_at hl 1 rfl) ?_
      refine lv_imul hx hb d_Lm_of_105 ?_
      refine lv_iload_n hx hb d_Lm_of_106 rfl (lv_at hl 2 rfl) ?_
      refine lv_iadd hx hb d_Lm_of_107 ?_
      refine lv_bipush (v := 9) hx hb d_Lm_of_108 (by decide) ?_
      refine lv_isub hx hb d_Lm_of_110 ?_
      refine lm_17 cx hX hG.1 d_Lm_of_111 ?_
      replace hG := hG.2
      exact ll_iret cx hr hlk hX hG d_Lm_of_112
    replace hG := hG.2 c12
    refine lv_tableOut (tgt := 113) hx hb d_Lm_of_15 (by have := lv_neT c4 (a := 0) (by decide); have := lv_neT c5 (a := 1) (by decide); have := lv_neT c6 (a := 2) (by decide); have := lv_neT c7 (a := 3) (by decide); have := lv_neT c8 (a := 4) (by decide); have := lv_neT c9 (a := 5) (by decide); have := lv_neT c10 (a := 6) (by decide); have := lv_neT c11 (a := 7) (by decide); have := lv_neT c12 (a := 8) (by decide); omega) (by decide) ?_
    refine lv_iconst (v := (-1)) hx hb d_Lm_of_113 (by decide) ?_
    exact ll_iret cx hr hlk hX hG d_Lm_of_114
  · have hG := hG.2 c3
    refine lv_iconst (v := (-1)) hx hb d_Lm_of_12 (by decide) ?_
    exact ll_iret cx hr hlk hX hG d_Lm_of_13
def G_Lm_isA_L (K : Int32 → ll_S → Prop) : Nat → Nat → Int32 → Int32 → Int32 → Int32 → ll_S → Prop
  | 0, _, _, _, _, _, _ => False
  | k + 1, _, x1, x2, x3, x4, f => ((x4 ≤ 0 → ((((x3 >>> (x2 &&& 31)) &&& 1) = 0 → K 0 f) ∧ (¬ ((x3 >>> (x2 &&& 31)) &&& 1) = 0 → K 1 f))) ∧ (¬ x4 ≤ 0 → ((((x3 >>> (x4 &&& 31)) &&& 1) = 0 → (G_Lm_isA_L K k 0 x1 x2 x3 (x4 + (-1)) f)) ∧ (¬ ((x3 >>> (x4 &&& 31)) &&& 1) = 0 → (vp_in x4 31 ∧ (vp_in x4 31 ∧ (G_Lm_isA_L K k 0 x1 x2 (x3 ||| ((1 <<< ((f 13 (x4).toNatClampNeg) &&& 31)) ||| (1 <<< ((f 14 (x4).toNatClampNeg) &&& 31)))) (x4 + (-1)) f)))))))
def G_Lm_isA (f : ll_S) (a1 : Int32) (a2 : Int32) (K : Int32 → ll_S → Prop) : Prop := (G_Lm_in f a1 1 (f 22 0) (fun r1 f2 => ((r1 = 0 → K 0 f2) ∧ (¬ r1 = 0 → (G_Lm_in f2 a2 1 (f2 22 0) (fun r4 f5 => ((¬ r4 = 0 → (∃ k, G_Lm_isA_L K k 0 a1 a2 (1 <<< (a1 &&& 31)) a1 f5)) ∧ (r4 = 0 → K 0 f5))))))))
set_option maxHeartbeats 4000000 in
set_option maxRecDepth 100000 in
theorem w_Lm_isA (l : Launch) {p : Program} {e : Env} {s : State} {m : MethodId} {args : Array Value} {below : List Frame} {meth : Method} {c : Code} {D : va_G} {h : Nat → Nat} {cI cZ : ClassId} {f0 : ll_S} {K : Int32 → ll_S → Prop} (cx : ll_C p m c b_Lm_isA 5 s args "LoaderLabModel" D [(cI, .int), (cZ, .boolean)]) (hr : meth.sig.returnType = (some .boolean)) (hlk : meth.locks = false) (hA : ∀ q, s.heap.size ≤ q → va_A (wd_M h cI cZ f0) s.heap.size q) : ∀ (k : Nat), (∀ (x1 : Int32) (x2 : Int32) (x3 : Int32) (x4 : Int32) (f : ll_S) (H : Heap) (locs : List Loc) (ls : Array Slot), G_Lm_isA_L K k 0 x1 x2 x3 x4 f → ll_X D (wd_M h cI cZ) (va_A (wd_M h cI cZ f0) s.heap.size) s.heap H locs f → lv_has ls 5 [(0, .ref (h 0)), (1, .int x1), (2, .int x2), (3, .int x3), (4, .int x4)] → W p l e (ll_rk 1) s m args below meth c H locs 0 0 (ll_Qi below args s D [(cI, .int), (cZ, .boolean)] (wd_M h cI cZ) f0 K) (F0 m 33 ls [])) := by
  obtain ⟨⟨hx, hb, -, -, -⟩, -⟩ := id cx
  intro k
  induction k with
  | zero => exact fun _ _ _ _ _ _ _ _ hG => hG.elim
  | succ k ih =>
    · intro x1 x2 x3 x4 f H locs ls hG hX hl
      rw [G_Lm_isA_L] at hG
      refine lv_iload hx hb d_Lm_isA_33 (lv_at hl 4 rfl) ?_
      refine lv_if_le (tgt := 75) hx hb d_Lm_isA_35 (by decide) (fun c7 => ?_) (fun c7 => ?_)
      · have hG := hG.1 c7
        refine lv_iload_n hx hb d_Lm_isA_75 rfl (lv_at hl 3 rfl) ?_
        refine lv_iload_n hx hb d_Lm_isA_76 rfl (lv_at hl 2 rfl) ?_
        refine lv_ishr hx hb d_Lm_isA_77 ?_
        refine lv_iconst (v := 1) hx hb d_Lm_isA_78 (by decide) ?_
        refine lv_iand hx hb d_Lm_isA_79 ?_
        refine lv_if_eq (tgt := 87) hx hb d_Lm_isA_80 (by decide) (fun c8 => ?_) (fun c8 => ?_)
        · have hG := hG.1 c8
          refine lv_iconst (v := 0) hx hb d_Lm_isA_87 (by decide) ?_
          exact ll_zret cx hr hlk hX (by decide) hG d_Lm_isA_88
        · have hG := hG.2 c8
          refine lv_iconst (v := 1) hx hb d_Lm_isA_83 (by decide) ?_
          refine lv_goto (tgt := 88) hx hb d_Lm_isA_84 (by decide) ?_
          exact ll_zret cx hr hlk hX (by decide) hG d_Lm_isA_88
      · have hG := hG.2 c7
        refine lv_iload_n hx hb d_Lm_isA_38 rfl (lv_at hl 3 rfl) ?_
        refine lv_iload hx hb d_Lm_isA_39 (lv_at hl 4 rfl) ?_
        refine lv_ishr hx hb d_Lm_isA_41 ?_
        refine lv_iconst (v := 1) hx hb d_Lm_isA_42 (by decide) ?_
        refine lv_iand hx hb d_Lm_isA_43 ?_
        refine lv_if_eq (tgt := 69) hx hb d_Lm_isA_44 (by decide) (fun c9 => ?_) (fun c9 => ?_)
        · have hG := hG.1 c9
          refine lv_iinc (v := (x4 + (-1))) (lv' := [(4, .int (x4 + (-1))), (0, .ref (h 0)), (1, .int x1), (2, .int x2), (3, .int x3)]) hx hb d_Lm_isA_69 hl (k := 4) rfl rfl (by decide) rfl (fun ls hl => ?_)
          refine lv_goto (tgt := 33) hx hb d_Lm_isA_72 (by decide) ?_
          exact ih _ _ _ _ _ _ _ _ hG hX (lv_sub hl [1, 2, 3, 4, 0] rfl)
        · have hG := hG.2 c9
          refine lv_iload_n hx hb d_Lm_isA_47 rfl (lv_at hl 3 rfl) ?_
          refine lv_iconst (v := 1) hx hb d_Lm_isA_48 (by decide) ?_
          refine lv_aload_n hx hb d_Lm_isA_49 rfl (lv_at hl 0 rfl) ?_
          refine gm_Lm_parentOf cx hX d_Lm_isA_50 ?_
          refine lv_iload hx hb d_Lm_isA_53 (lv_at hl 4 rfl) ?_
          refine lm_13 cx hX hG.1 d_Lm_isA_55 ?_
          replace hG := hG.2
          refine lv_ishl hx hb d_Lm_isA_56 ?_
          refine lv_iconst (v := 1) hx hb d_Lm_isA_57 (by decide) ?_
          refine lv_aload_n hx hb d_Lm_isA_58 rfl (lv_at hl 0 rfl) ?_
          refine gm_Lm_interfaceOf cx hX d_Lm_isA_59 ?_
          refine lv_iload hx hb d_Lm_isA_62 (lv_at hl 4 rfl) ?_
          refine lm_14 cx hX hG.1 d_Lm_isA_64 ?_
          replace hG := hG.2
          refine lv_ishl hx hb d_Lm_isA_65 ?_
          refine lv_ior hx hb d_Lm_isA_66 ?_
          refine lv_ior hx hb d_Lm_isA_67 ?_
          refine lv_istore_n (lv' := [(3, .int (x3 ||| ((1 <<< ((f 13 (x4).toNatClampNeg) &&& 31)) ||| (1 <<< ((f 14 (x4).toNatClampNeg) &&& 31))))), (0, .ref (h 0)), (1, .int x1), (2, .int x2), (4, .int x4)]) hx hb d_Lm_isA_68 rfl hl (by decide) rfl (fun ls hl => ?_)
          refine lv_iinc (v := (x4 + (-1))) (lv' := [(4, .int (x4 + (-1))), (3, .int (x3 ||| ((1 <<< ((f 13 (x4).toNatClampNeg) &&& 31)) ||| (1 <<< ((f 14 (x4).toNatClampNeg) &&& 31))))), (0, .ref (h 0)), (1, .int x1), (2, .int x2)]) hx hb d_Lm_isA_69 hl (k := 4) rfl rfl (by decide) rfl (fun ls hl => ?_)
          refine lv_goto (tgt := 33) hx hb d_Lm_isA_72 (by decide) ?_
          exact ih _ _ _ _ _ _ _ _ hG hX (lv_sub hl [2, 3, 4, 1, 0] rfl)
set_option maxHeartbeats 4000000 in
set_option maxRecDepth 100000 in
theorem c_Lm_isA (l : Launch) (D : va_G) (h : Nat → Nat) (cI cZ : ClassId) (f : ll_S) (a1 : Int32) (a2 : Int32) (K : Int32 → ll_S → Prop) (hG : G_Lm_isA f a1 a2 K) : ll_Mi l y_Lm_isA (Cond.code y_Lm_isA b_Lm_isA 5 (some .boolean) :: ll_xt) (ll_rk 1) D [(cI, .int), (cZ, .boolean)] (wd_M h cI cZ) [.ref (h 0), .int a1, .int a2] f K := by
  refine ll_starti (own := "LoaderLabModel") (by decide) rfl (Nat.le_of_ble_eq_true rfl) (fun p e s m below meth c ls cx hr hlk hA hX hl => ?_)
  have hl : lv_has ls 5 [(0, .ref (h 0)), (1, .int a1), (2, .int a2)] := hl
  obtain ⟨⟨hx, hb, -, -, -⟩, -⟩ := id cx
  unfold G_Lm_isA at hG
  refine lv_iload_n hx hb d_Lm_isA_0 rfl (lv_at hl 1 rfl) ?_
  refine lv_iconst (v := 1) hx hb d_Lm_isA_1 (by decide) ?_
  refine lv_aload_n hx hb d_Lm_isA_2 rfl (lv_at hl 0 rfl) ?_
  refine gm_Lm_classes cx hX d_Lm_isA_3 ?_
  refine ll_callsi cx hA hX (c_Lm_in l D h cI cZ _ _ _ _ _ hG) (cw_Lm_77 cx.1.2.2.2.2 (ll_hR (by omega) (by decide))) rfl hl.1 rfl (Nat.le_of_ble_eq_true rfl) d_Lm_isA_6 ⟨Nat.zero_le _, Nat.zero_le _⟩ (fun r1 f2 H locs hG hX => ?_)
  refine lv_if_eq (tgt := 24) hx hb d_Lm_isA_9 (by decide) (fun c3 => ?_) (fun c3 => ?_)
  · have hG := hG.1 c3
    refine lv_iconst (v := 0) hx hb d_Lm_isA_24 (by decide) ?_
    exact ll_zret cx hr hlk hX (by decide) hG d_Lm_isA_25
  · have hG := hG.2 c3
    refine lv_iload_n hx hb d_Lm_isA_12 rfl (lv_at hl 2 rfl) ?_
    refine lv_iconst (v := 1) hx hb d_Lm_isA_13 (by decide) ?_
    refine lv_aload_n hx hb d_Lm_isA_14 rfl (lv_at hl 0 rfl) ?_
    refine gm_Lm_classes cx hX d_Lm_isA_15 ?_
    refine ll_callsi cx hA hX (c_Lm_in l D h cI cZ _ _ _ _ _ hG) (cw_Lm_77 cx.1.2.2.2.2 (ll_hR (by omega) (by decide))) rfl hl.1 rfl (Nat.le_of_ble_eq_true rfl) d_Lm_isA_18 ⟨Nat.zero_le _, Nat.zero_le _⟩ (fun r4 f5 H locs hG hX => ?_)
    refine lv_if_ne (tgt := 26) hx hb d_Lm_isA_21 (by decide) (fun c6 => ?_) (fun c6 => ?_)
    · have hG := hG.1 c6
      refine lv_iconst (v := 1) hx hb d_Lm_isA_26 (by decide) ?_
      refine lv_iload_n hx hb d_Lm_isA_27 rfl (lv_at hl 1 rfl) ?_
      refine lv_ishl hx hb d_Lm_isA_28 ?_
      refine lv_istore_n (lv' := [(3, .int (1 <<< (a1 &&& 31))), (0, .ref (h 0)), (1, .int a1), (2, .int a2)]) hx hb d_Lm_isA_29 rfl hl (by decide) rfl (fun ls hl => ?_)
      refine lv_iload_n hx hb d_Lm_isA_30 rfl (lv_at hl 2 rfl) ?_
      refine lv_istore (lv' := [(4, .int a1), (3, .int (1 <<< (a1 &&& 31))), (0, .ref (h 0)), (1, .int a1), (2, .int a2)]) hx hb d_Lm_isA_31 hl (by decide) rfl (fun ls hl => ?_)
      obtain ⟨kf, hG⟩ := hG
      exact (w_Lm_isA l cx hr hlk hA kf) _ _ _ _ _ _ _ _ hG hX (lv_sub hl [2, 3, 4, 1, 0] rfl)
    · have hG := hG.2 c6
      refine lv_iconst (v := 0) hx hb d_Lm_isA_24 (by decide) ?_
      exact ll_zret cx hr hlk hX (by decide) hG d_Lm_isA_25
def G_Lm_count_L (K : Int32 → ll_S → Prop) : Nat → Nat → Int32 → Int32 → Int32 → Int32 → ll_S → Prop
  | 0, _, _, _, _, _, _ => False
  | k + 1, 0, x1, x2, x3, _, f => (((40 : Int32) ≤ x3 → ((¬ x1 = 0 → (G_Lm_in f x1 1 3 (fun r3 f4 => ((r3 = 0 → K (-1) f4) ∧ (¬ r3 = 0 → K x2 f4))))) ∧ (x1 = 0 → K (f 22 0) f))) ∧ (¬ (40 : Int32) ≤ x3 → ((¬ x1 = (1 : Int32) → ((¬ x1 = (2 : Int32) → (G_Lm_count_L K k 1 x1 x2 x3 (x3 + 8) f)) ∧ (x1 = (2 : Int32) → (vp_in x3 40 ∧ (((f 1 (x3).toNatClampNeg) = 0 → (G_Lm_count_L K k 1 x1 x2 x3 (x3 + 8) f)) ∧ (¬ (f 1 (x3).toNatClampNeg) = 0 → (G_Lm_count_L K k 1 x1 (x2 + 1) x3 (x3 + 8) f))))))) ∧ (x1 = (1 : Int32) → (vp_in x3 40 ∧ ((0 < (f 8 (x3).toNatClampNeg) → (G_Lm_count_L K k 1 x1 (x2 + 1) x3 (x3 + 8) f)) ∧ (¬ 0 < (f 8 (x3).toNatClampNeg) → ((¬ x1 = (2 : Int32) → (G_Lm_count_L K k 1 x1 x2 x3 (x3 + 8) f)) ∧ (x1 = (2 : Int32) → (vp_in x3 40 ∧ (((f 1 (x3).toNatClampNeg) = 0 → (G_Lm_count_L K k 1 x1 x2 x3 (x3 + 8) f)) ∧ (¬ (f 1 (x3).toNatClampNeg) = 0 → (G_Lm_count_L K k 1 x1 (x2 + 1) x3 (x3 + 8) f)))))))))))))
  | k + 1, 1, x1, x2, x3, x4, f => (((40 : Int32) ≤ x4 → (G_Lm_count_L K k 0 x1 x2 (x3 + 1) 0 f)) ∧ (¬ (40 : Int32) ≤ x4 → ((¬ x1 = (3 : Int32) → (G_Lm_count_L K k 0 x1 x2 (x3 + 1) 0 f)) ∧ (x1 = (3 : Int32) → (vp_in x4 40 ∧ (vp_in x3 40 ∧ ((¬ (f 10 (x4).toNatClampNeg) = (f 10 (x3).toNatClampNeg) → (G_Lm_count_L K k 1 x1 x2 x3 (x4 + 8) f)) ∧ ((f 10 (x4).toNatClampNeg) = (f 10 (x3).toNatClampNeg) → (G_Lm_count_L K k 1 x1 (x2 + 1) x3 (x4 + 8) f)))))))))
  | _ + 1, _ + 2, _, _, _, _, _ => False
def G_Lm_count (f : ll_S) (a1 : Int32) (K : Int32 → ll_S → Prop) : Prop := (∃ k, G_Lm_count_L K k 0 a1 0 0 0 f)
set_option maxHeartbeats 4000000 in
set_option maxRecDepth 100000 in
theorem w_Lm_count (l : Launch) {p : Program} {e : Env} {s : State} {m : MethodId} {args : Array Value} {below : List Frame} {meth : Method} {c : Code} {D : va_G} {h : Nat → Nat} {cI cZ : ClassId} {f0 : ll_S} {K : Int32 → ll_S → Prop} (cx : ll_C p m c b_Lm_count 5 s args "LoaderLabModel" D [(cI, .int), (cZ, .boolean)]) (hr : meth.sig.returnType = (some .int)) (hlk : meth.locks = false) (hA : ∀ q, s.heap.size ≤ q → va_A (wd_M h cI cZ f0) s.heap.size q) : ∀ (k : Nat), (∀ (x1 : Int32) (x2 : Int32) (x3 : Int32) (x4 : Int32) (f : ll_S) (H : Heap) (locs : List Loc) (ls : Array Slot), G_Lm_count_L K k 0 x1 x2 x3 x4 f → ll_X D (wd_M h cI cZ) (va_A (wd_M h cI cZ f0) s.heap.size) s.heap H locs f → lv_has ls 5 [(0, .ref (h 0)), (1, .int x1), (2, .int x2), (3, .int x3)] → W p l e (ll_rk 1) s m args below meth c H locs 0 0 (ll_Qi below args s D [(cI, .int), (cZ, .boolean)] (wd_M h cI cZ) f0 K) (F0 m 4 ls [])) ∧ (∀ (x1 : Int32) (x2 : Int32) (x3 : Int32) (x4 : Int32) (f : ll_S) (H : Heap) (locs : List Loc) (ls : Array Slot), G_Lm_count_L K k 1 x1 x2 x3 x4 f → ll_X D (wd_M h cI cZ) (va_A (wd_M h cI cZ f0) s.heap.size) s.heap H locs f → lv_has ls 5 [(0, .ref (h 0)), (1, .int x1), (2, .int x2), (3, .int x3), (4, .int x4)] → W p l e (ll_rk 1) s m args below meth c H locs 0 0 (ll_Qi below args s D [(cI, .int), (cZ, .boolean)] (wd_M h cI cZ) f0 K) (F0 m 47 ls [])) := by
  obtain ⟨⟨hx, hb, -, -, -⟩, -⟩ := id cx
  intro k
  induction k with
  | zero => exact ⟨fun _ _ _ _ _ _ _ _ hG => hG.elim, fun _ _ _ _ _ _ _ _ hG => hG.elim⟩
  | succ k ih =>
    refine ⟨?_, ?_⟩
    · intro x1 x2 x3 x4 f H locs ls hG hX hl
      rw [G_Lm_count_L] at hG
      refine lv_iload_n hx hb d_Lm_count_4 rfl (lv_at hl 3 rfl) ?_
      refine lv_bipush (v := 40) hx hb d_Lm_count_5 (by decide) ?_
      refine lv_icmp_ge (tgt := 90) hx hb d_Lm_count_7 (by decide) (fun c1 => ?_) (fun c1 => ?_)
      · have hG := hG.1 c1
        refine lv_iload_n hx hb d_Lm_count_90 rfl (lv_at hl 1 rfl) ?_
        refine lv_if_ne (tgt := 101) hx hb d_Lm_count_91 (by decide) (fun c2 => ?_) (fun c2 => ?_)
        · have hG := hG.1 c2
          refine lv_iload_n hx hb d_Lm_count_101 rfl (lv_at hl 1 rfl) ?_
          refine lv_iconst (v := 1) hx hb d_Lm_count_102 (by decide) ?_
          refine lv_iconst (v := 3) hx hb d_Lm_count_103 (by decide) ?_
          refine ll_callsi cx hA hX (c_Lm_in l D h cI cZ _ _ _ _ _ hG) (cw_Lm_77 cx.1.2.2.2.2 (ll_hR (by omega) (by decide))) rfl hl.1 rfl (Nat.le_of_ble_eq_true rfl) d_Lm_count_104 ⟨Nat.zero_le _, Nat.zero_le _⟩ (fun r3 f4 H locs hG hX => ?_)
          refine lv_if_eq (tgt := 114) hx hb d_Lm_count_107 (by decide) (fun c5 => ?_) (fun c5 => ?_)
          · have hG := hG.1 c5
            refine lv_iconst (v := (-1)) hx hb d_Lm_count_114 (by decide) ?_
            exact ll_iret cx hr hlk hX hG d_Lm_count_115
          · have hG := hG.2 c5
            refine lv_iload_n hx hb d_Lm_count_110 rfl (lv_at hl 2 rfl) ?_
            refine lv_goto (tgt := 115) hx hb d_Lm_count_111 (by decide) ?_
            exact ll_iret cx hr hlk hX hG d_Lm_count_115
        · have hG := hG.2 c2
          refine lv_aload_n hx hb d_Lm_count_94 rfl (lv_at hl 0 rfl) ?_
          refine gm_Lm_classes cx hX d_Lm_count_95 ?_
          refine lv_goto (tgt := 115) hx hb d_Lm_count_98 (by decide) ?_
          exact ll_iret cx hr hlk hX hG d_Lm_count_115
      · have hG := hG.2 c1
        refine lv_iload_n hx hb d_Lm_count_10 rfl (lv_at hl 1 rfl) ?_
        refine lv_iconst (v := 1) hx hb d_Lm_count_11 (by decide) ?_
        refine lv_icmp_ne (tgt := 24) hx hb d_Lm_count_12 (by decide) (fun c6 => ?_) (fun c6 => ?_)
        · have hG := hG.1 c6
          refine lv_iload_n hx hb d_Lm_count_24 rfl (lv_at hl 1 rfl) ?_
          refine lv_iconst (v := 2) hx hb d_Lm_count_25 (by decide) ?_
          refine lv_icmp_ne (tgt := 41) hx hb d_Lm_count_26 (by decide) (fun c7 => ?_) (fun c7 => ?_)
          · have hG := hG.1 c7
            refine lv_iload_n hx hb d_Lm_count_41 rfl (lv_at hl 3 rfl) ?_
            refine lv_bipush (v := 8) hx hb d_Lm_count_42 (by decide) ?_
            refine lv_iadd hx hb d_Lm_count_44 ?_
            refine lv_istore (lv' := [(4, .int (x3 + 8)), (0, .ref (h 0)), (1, .int x1), (2, .int x2), (3, .int x3)]) hx hb d_Lm_count_45 hl (by decide) rfl (fun ls hl => ?_)
            exact ih.2 _ _ _ _ _ _ _ _ hG hX (lv_sub hl [1, 2, 3, 4, 0] rfl)
          · have hG := hG.2 c7
            refine lv_aload_n hx hb d_Lm_count_29 rfl (lv_at hl 0 rfl) ?_
            refine gm_Lm_hasFile cx hX d_Lm_count_30 ?_
            refine lv_iload_n hx hb d_Lm_count_33 rfl (lv_at hl 3 rfl) ?_
            refine lm_1 cx hX hG.1 d_Lm_count_34 ?_
            replace hG := hG.2
            refine lv_if_eq (tgt := 41) hx hb d_Lm_count_35 (by decide) (fun c8 => ?_) (fun c8 => ?_)
            · have hG := hG.1 c8
              refine lv_iload_n hx hb d_Lm_count_41 rfl (lv_at hl 3 rfl) ?_
              refine lv_bipush (v := 8) hx hb d_Lm_count_42 (by decide) ?_
              refine lv_iadd hx hb d_Lm_count_44 ?_
              refine lv_istore (lv' := [(4, .int (x3 + 8)), (0, .ref (h 0)), (1, .int x1), (2, .int x2), (3, .int x3)]) hx hb d_Lm_count_45 hl (by decide) rfl (fun ls hl => ?_)
              exact ih.2 _ _ _ _ _ _ _ _ hG hX (lv_sub hl [1, 2, 3, 4, 0] rfl)
            · have hG := hG.2 c8
              refine lv_iinc (v := (x2 + 1)) (lv' := [(2, .int (x2 + 1)), (0, .ref (h 0)), (1, .int x1), (3, .int x3)]) hx hb d_Lm_count_38 hl (k := 2) rfl rfl (by decide) rfl (fun ls hl => ?_)
              refine lv_iload_n hx hb d_Lm_count_41 rfl (lv_at hl 3 rfl) ?_
              refine lv_bipush (v := 8) hx hb d_Lm_count_42 (by decide) ?_
              refine lv_iadd hx hb d_Lm_count_44 ?_
              refine lv_istore (lv' := [(4, .int (x3 + 8)), (2, .int (x2 + 1)), (0, .ref (h 0)), (1, .int x1), (3, .int x3)]) hx hb d_Lm_count_45 hl (by decide) rfl (fun ls hl => ?_)
              exact ih.2 _ _ _ _ _ _ _ _ hG hX (lv_sub hl [2, 3, 1, 4, 0] rfl)
        · have hG := hG.2 c6
          refine lv_aload_n hx hb d_Lm_count_15 rfl (lv_at hl 0 rfl) ?_
          refine gm_Lm_noted cx hX d_Lm_count_16 ?_
          refine lv_iload_n hx hb d_Lm_count_19 rfl (lv_at hl 3 rfl) ?_
          refine lm_8 cx hX hG.1 d_Lm_count_20 ?_
          replace hG := hG.2
          refine lv_if_gt (tgt := 38) hx hb d_Lm_count_21 (by decide) (fun c9 => ?_) (fun c9 => ?_)
          · have hG := hG.1 c9
            refine lv_iinc (v := (x2 + 1)) (lv' := [(2, .int (x2 + 1)), (0, .ref (h 0)), (1, .int x1), (3, .int x3)]) hx hb d_Lm_count_38 hl (k := 2) rfl rfl (by decide) rfl (fun ls hl => ?_)
            refine lv_iload_n hx hb d_Lm_count_41 rfl (lv_at hl 3 rfl) ?_
            refine lv_bipush (v := 8) hx hb d_Lm_count_42 (by decide) ?_
            refine lv_iadd hx hb d_Lm_count_44 ?_
            refine lv_istore (lv' := [(4, .int (x3 + 8)), (2, .int (x2 + 1)), (0, .ref (h 0)), (1, .int x1), (3, .int x3)]) hx hb d_Lm_count_45 hl (by decide) rfl (fun ls hl => ?_)
            exact ih.2 _ _ _ _ _ _ _ _ hG hX (lv_sub hl [2, 3, 1, 4, 0] rfl)
          · have hG := hG.2 c9
            refine lv_iload_n hx hb d_Lm_count_24 rfl (lv_at hl 1 rfl) ?_
            refine lv_iconst (v := 2) hx hb d_Lm_count_25 (by decide) ?_
            refine lv_icmp_ne (tgt := 41) hx hb d_Lm_count_26 (by decide) (fun c10 => ?_) (fun c10 => ?_)
            · have hG := hG.1 c10
              refine lv_iload_n hx hb d_Lm_count_41 rfl (lv_at hl 3 rfl) ?_
              refine lv_bipush (v := 8) hx hb d_Lm_count_42 (by decide) ?_
              refine lv_iadd hx hb d_Lm_count_44 ?_
              refine lv_istore (lv' := [(4, .int (x3 + 8)), (0, .ref (h 0)), (1, .int x1), (2, .int x2), (3, .int x3)]) hx hb d_Lm_count_45 hl (by decide) rfl (fun ls hl => ?_)
              exact ih.2 _ _ _ _ _ _ _ _ hG hX (lv_sub hl [1, 2, 3, 4, 0] rfl)
            · have hG := hG.2 c10
              refine lv_aload_n hx hb d_Lm_count_29 rfl (lv_at hl 0 rfl) ?_
              refine gm_Lm_hasFile cx hX d_Lm_count_30 ?_
              refine lv_iload_n hx hb d_Lm_count_33 rfl (lv_at hl 3 rfl) ?_
              refine lm_1 cx hX hG.1 d_Lm_count_34 ?_
              replace hG := hG.2
              refine lv_if_eq (tgt := 41) hx hb d_Lm_count_35 (by decide) (fun c11 => ?_) (fun c11 => ?_)
              · have hG := hG.1 c11
                refine lv_iload_n hx hb d_Lm_count_41 rfl (lv_at hl 3 rfl) ?_
                refine lv_bipush (v := 8) hx hb d_Lm_count_42 (by decide) ?_
                refine lv_iadd hx hb d_Lm_count_44 ?_
                refine lv_istore (lv' := [(4, .int (x3 + 8)), (0, .ref (h 0)), (1, .int x1), (2, .int x2), (3, .int x3)]) hx hb d_Lm_count_45 hl (by decide) rfl (fun ls hl => ?_)
                exact ih.2 _ _ _ _ _ _ _ _ hG hX (lv_sub hl [1, 2, 3, 4, 0] rfl)
              · have hG := hG.2 c11
                refine lv_iinc (v := (x2 + 1)) (lv' := [(2, .int (x2 + 1)), (0, .ref (h 0)), (1, .int x1), (3, .int x3)]) hx hb d_Lm_count_38 hl (k := 2) rfl rfl (by decide) rfl (fun ls hl => ?_)
                refine lv_iload_n hx hb d_Lm_count_41 rfl (lv_at hl 3 rfl) ?_
                refine lv_bipush (v := 8) hx hb d_Lm_count_42 (by decide) ?_
                refine lv_iadd hx hb d_Lm_count_44 ?_
                refine lv_istore (lv' := [(4, .int (x3 + 8)), (2, .int (x2 + 1)), (0, .ref (h 0)), (1, .int x1), (3, .int x3)]) hx hb d_Lm_count_45 hl (by decide) rfl (fun ls hl => ?_)
                exact ih.2 _ _ _ _ _ _ _ _ hG hX (lv_sub hl [2, 3, 1, 4, 0] rfl)
    · intro x1 x2 x3 x4 f H locs ls hG hX hl
      rw [G_Lm_count_L] at hG
      refine lv_iload hx hb d_Lm_count_47 (lv_at hl 4 rfl) ?_
      refine lv_bipush (v := 40) hx hb d_Lm_count_49 (by decide) ?_
      refine lv_icmp_ge (tgt := 84) hx hb d_Lm_count_51 (by decide) (fun c12 => ?_) (fun c12 => ?_)
      · have hG := hG.1 c12
        refine lv_iinc (v := (x3 + 1)) (lv' := [(3, .int (x3 + 1)), (0, .ref (h 0)), (1, .int x1), (2, .int x2), (4, .int x4)]) hx hb d_Lm_count_84 hl (k := 3) rfl rfl (by decide) rfl (fun ls hl => ?_)
        refine lv_goto (tgt := 4) hx hb d_Lm_count_87 (by decide) ?_
        exact ih.1 _ _ _ _ _ _ _ _ hG hX (lv_sub hl [1, 2, 3, 0] rfl)
      · have hG := hG.2 c12
        refine lv_iload_n hx hb d_Lm_count_54 rfl (lv_at hl 1 rfl) ?_
        refine lv_iconst (v := 3) hx hb d_Lm_count_55 (by decide) ?_
        refine lv_icmp_ne (tgt := 84) hx hb d_Lm_count_56 (by decide) (fun c13 => ?_) (fun c13 => ?_)
        · have hG := hG.1 c13
          refine lv_iinc (v := (x3 + 1)) (lv' := [(3, .int (x3 + 1)), (0, .ref (h 0)), (1, .int x1), (2, .int x2), (4, .int x4)]) hx hb d_Lm_count_84 hl (k := 3) rfl rfl (by decide) rfl (fun ls hl => ?_)
          refine lv_goto (tgt := 4) hx hb d_Lm_count_87 (by decide) ?_
          exact ih.1 _ _ _ _ _ _ _ _ hG hX (lv_sub hl [1, 2, 3, 0] rfl)
        · have hG := hG.2 c13
          refine lv_aload_n hx hb d_Lm_count_59 rfl (lv_at hl 0 rfl) ?_
          refine gm_Lm_group cx hX d_Lm_count_60 ?_
          refine lv_iload hx hb d_Lm_count_63 (lv_at hl 4 rfl) ?_
          refine lm_10 cx hX hG.1 d_Lm_count_65 ?_
          replace hG := hG.2
          refine lv_aload_n hx hb d_Lm_count_66 rfl (lv_at hl 0 rfl) ?_
          refine gm_Lm_group cx hX d_Lm_count_67 ?_
          refine lv_iload_n hx hb d_Lm_count_70 rfl (lv_at hl 3 rfl) ?_
          refine lm_10 cx hX hG.1 d_Lm_count_71 ?_
          replace hG := hG.2
          refine lv_icmp_ne (tgt := 78) hx hb d_Lm_count_72 (by decide) (fun c14 => ?_) (fun c14 => ?_)
          · have hG := hG.1 c14
            refine lv_iinc (v := (x4 + 8)) (lv' := [(4, .int (x4 + 8)), (0, .ref (h 0)), (1, .int x1), (2, .int x2), (3, .int x3)]) hx hb d_Lm_count_78 hl (k := 4) rfl rfl (by decide) rfl (fun ls hl => ?_)
            refine lv_goto (tgt := 47) hx hb d_Lm_count_81 (by decide) ?_
            exact ih.2 _ _ _ _ _ _ _ _ hG hX (lv_sub hl [1, 2, 3, 4, 0] rfl)
          · have hG := hG.2 c14
            refine lv_iinc (v := (x2 + 1)) (lv' := [(2, .int (x2 + 1)), (0, .ref (h 0)), (1, .int x1), (3, .int x3), (4, .int x4)]) hx hb d_Lm_count_75 hl (k := 2) rfl rfl (by decide) rfl (fun ls hl => ?_)
            refine lv_iinc (v := (x4 + 8)) (lv' := [(4, .int (x4 + 8)), (2, .int (x2 + 1)), (0, .ref (h 0)), (1, .int x1), (3, .int x3)]) hx hb d_Lm_count_78 hl (k := 4) rfl rfl (by decide) rfl (fun ls hl => ?_)
            refine lv_goto (tgt := 47) hx hb d_Lm_count_81 (by decide) ?_
            exact ih.2 _ _ _ _ _ _ _ _ hG hX (lv_sub hl [2, 3, 1, 4, 0] rfl)
set_option maxHeartbeats 4000000 in
set_option maxRecDepth 100000 in
theorem c_Lm_count (l : Launch) (D : va_G) (h : Nat → Nat) (cI cZ : ClassId) (f : ll_S) (a1 : Int32) (K : Int32 → ll_S → Prop) (hG : G_Lm_count f a1 K) : ll_Mi l y_Lm_count (Cond.code y_Lm_count b_Lm_count 5 (some .int) :: ll_xt) (ll_rk 1) D [(cI, .int), (cZ, .boolean)] (wd_M h cI cZ) [.ref (h 0), .int a1] f K := by
  refine ll_starti (own := "LoaderLabModel") (by decide) rfl (Nat.le_of_ble_eq_true rfl) (fun p e s m below meth c ls cx hr hlk hA hX hl => ?_)
  have hl : lv_has ls 5 [(0, .ref (h 0)), (1, .int a1)] := hl
  obtain ⟨⟨hx, hb, -, -, -⟩, -⟩ := id cx
  unfold G_Lm_count at hG
  refine lv_iconst (v := 0) hx hb d_Lm_count_0 (by decide) ?_
  refine lv_istore_n (lv' := [(2, .int 0), (0, .ref (h 0)), (1, .int a1)]) hx hb d_Lm_count_1 rfl hl (by decide) rfl (fun ls hl => ?_)
  refine lv_iconst (v := 0) hx hb d_Lm_count_2 (by decide) ?_
  refine lv_istore_n (lv' := [(3, .int 0), (2, .int 0), (0, .ref (h 0)), (1, .int a1)]) hx hb d_Lm_count_3 rfl hl (by decide) rfl (fun ls hl => ?_)
  obtain ⟨kf, hG⟩ := hG
  exact (w_Lm_count l cx hr hlk hA kf).1 _ _ _ _ _ _ _ _ hG hX (lv_sub hl [2, 3, 1, 0] rfl)
