def G_Lb_isLoader (f : ll_S) (a1 : Int32) (K : Int32 → ll_S → Prop) : Prop := ((a1 < 0 → K 0 f) ∧ (¬ a1 < 0 → (((5 : Int32) ≤ a1 → K 0 f) ∧ (¬ (5 : Int32) ≤ a1 → K 1 f))))
set_option maxHeartbeats 4000000 in
set_option maxRecDepth 100000 in
theorem c_Lb_isLoader (l : Launch) (D : va_G) (h : Nat → Nat) (cI cZ : ClassId) (f : ll_S) (a1 : Int32) (K : Int32 → ll_S → Prop) (hG : G_Lb_isLoader f a1 K) : ll_Mi l y_Lb_isLoader (Cond.code y_Lb_isLoader b_Lb_isLoader 1 (some .boolean) :: ll_xt) (ll_rk 0) D [(cI, .int), (cZ, .boolean)] (wd_X h cI cZ) [.int a1] f K := by
  refine ll_starti (own := "LoaderLab$Loaders") (by decide) rfl (Nat.le_of_ble_eq_true rfl) (fun p e s m below meth c ls cx hr hlk hA hX hl => ?_)
  have hl : lv_has ls 1 [(0, .int a1)] := hl
  obtain ⟨⟨hx, hb, -, -, -⟩, -⟩ := id cx
  unfold G_Lb_isLoader at hG
  refine lv_iload_n hx hb d_Lb_isLoader_0 rfl (lv_at hl 0 rfl) ?_
  refine lv_if_lt (tgt := 13) hx hb d_Lb_isLoader_1 (by decide) (fun c1 => ?_) (fun c1 => ?_)
  · have hG := hG.1 c1
    refine lv_iconst (v := 0) hx hb d_Lb_isLoader_13 (by decide) ?_
    exact ll_zret cx hr hlk hX (by decide) hG d_Lb_isLoader_14
  · have hG := hG.2 c1
    refine lv_iload_n hx hb d_Lb_isLoader_4 rfl (lv_at hl 0 rfl) ?_
    refine lv_iconst (v := 5) hx hb d_Lb_isLoader_5 (by decide) ?_
    refine lv_icmp_ge (tgt := 13) hx hb d_Lb_isLoader_6 (by decide) (fun c2 => ?_) (fun c2 => ?_)
    · have hG := hG.1 c2
      refine lv_iconst (v := 0) hx hb d_Lb_isLoader_13 (by decide) ?_
      exact ll_zret cx hr hlk hX (by decide) hG d_Lb_isLoader_14
    · have hG := hG.2 c2
      refine lv_iconst (v := 1) hx hb d_Lb_isLoader_9 (by decide) ?_
      refine lv_goto (tgt := 14) hx hb d_Lb_isLoader_10 (by decide) ?_
      exact ll_zret cx hr hlk hX (by decide) hG d_Lb_isLoader_14
def G_Lb_isName (f : ll_S) (a1 : Int32) (K : Int32 → ll_S → Prop) : Prop := ((a1 < 0 → K 0 f) ∧ (¬ a1 < 0 → (((8 : Int32) ≤ a1 → K 0 f) ∧ (¬ (8 : Int32) ≤ a1 → K 1 f))))
set_option maxHeartbeats 4000000 in
set_option maxRecDepth 100000 in
theorem c_Lb_isName (l : Launch) (D : va_G) (h : Nat → Nat) (cI cZ : ClassId) (f : ll_S) (a1 : Int32) (K : Int32 → ll_S → Prop) (hG : G_Lb_isName f a1 K) : ll_Mi l y_Lb_isName (Cond.code y_Lb_isName b_Lb_isName 1 (some .boolean) :: ll_xt) (ll_rk 0) D [(cI, .int), (cZ, .boolean)] (wd_X h cI cZ) [.int a1] f K := by
  refine ll_starti (own := "LoaderLab$Loaders") (by decide) rfl (Nat.le_of_ble_eq_true rfl) (fun p e s m below meth c ls cx hr hlk hA hX hl => ?_)
  have hl : lv_has ls 1 [(0, .int a1)] := hl
  obtain ⟨⟨hx, hb, -, -, -⟩, -⟩ := id cx
  unfold G_Lb_isName at hG
  refine lv_iload_n hx hb d_Lb_isName_0 rfl (lv_at hl 0 rfl) ?_
  refine lv_if_lt (tgt := 14) hx hb d_Lb_isName_1 (by decide) (fun c1 => ?_) (fun c1 => ?_)
  · have hG := hG.1 c1
    refine lv_iconst (v := 0) hx hb d_Lb_isName_14 (by decide) ?_
    exact ll_zret cx hr hlk hX (by decide) hG d_Lb_isName_15
  · have hG := hG.2 c1
    refine lv_iload_n hx hb d_Lb_isName_4 rfl (lv_at hl 0 rfl) ?_
    refine lv_bipush (v := 8) hx hb d_Lb_isName_5 (by decide) ?_
    refine lv_icmp_ge (tgt := 14) hx hb d_Lb_isName_7 (by decide) (fun c2 => ?_) (fun c2 => ?_)
    · have hG := hG.1 c2
      refine lv_iconst (v := 0) hx hb d_Lb_isName_14 (by decide) ?_
      exact ll_zret cx hr hlk hX (by decide) hG d_Lb_isName_15
    · have hG := hG.2 c2
      refine lv_iconst (v := 1) hx hb d_Lb_isName_10 (by decide) ?_
      refine lv_goto (tgt := 15) hx hb d_Lb_isName_11 (by decide) ?_
      exact ll_zret cx hr hlk hX (by decide) hG d_Lb_isName_15
def G_Lb_inRange (f : ll_S) (a1 : Int32) (a2 : Int32) (K : Int32 → ll_S → Prop) : Prop := (G_Lb_isLoader f a1 (fun r1 f2 => ((r1 = 0 → K 0 f2) ∧ (¬ r1 = 0 → (G_Lb_isName f2 a2 (fun r4 f5 => ((r4 = 0 → K 0 f5) ∧ (¬ r4 = 0 → K 1 f5))))))))
set_option maxHeartbeats 4000000 in
set_option maxRecDepth 100000 in
theorem c_Lb_inRange (l : Launch) (D : va_G) (h : Nat → Nat) (cI cZ : ClassId) (f : ll_S) (a1 : Int32) (a2 : Int32) (K : Int32 → ll_S → Prop) (hG : G_Lb_inRange f a1 a2 K) : ll_Mi l y_Lb_inRange (Cond.code y_Lb_inRange b_Lb_inRange 2 (some .boolean) :: ll_xt) (ll_rk 1) D [(cI, .int), (cZ, .boolean)] (wd_X h cI cZ) [.int a1, .int a2] f K := by
  refine ll_starti (own := "LoaderLab$Loaders") (by decide) rfl (Nat.le_of_ble_eq_true rfl) (fun p e s m below meth c ls cx hr hlk hA hX hl => ?_)
  have hl : lv_has ls 2 [(0, .int a1), (1, .int a2)] := hl
  obtain ⟨⟨hx, hb, -, -, -⟩, -⟩ := id cx
  unfold G_Lb_inRange at hG
  refine lv_iload_n hx hb d_Lb_inRange_0 rfl (lv_at hl 0 rfl) ?_
  refine ll_callsi cx hA hX (c_Lb_isLoader l D h cI cZ _ _ _ hG) (cw_Lb_37 cx.1.2.2.2.2 (ll_hR (by omega) (by decide))) rfl hl.1 rfl (Nat.le_of_ble_eq_true rfl) d_Lb_inRange_1 ⟨Nat.zero_le _, Nat.zero_le _⟩ (fun r1 f2 H locs hG hX => ?_)
  refine lv_if_eq (tgt := 18) hx hb d_Lb_inRange_4 (by decide) (fun c3 => ?_) (fun c3 => ?_)
  · have hG := hG.1 c3
    refine lv_iconst (v := 0) hx hb d_Lb_inRange_18 (by decide) ?_
    exact ll_zret cx hr hlk hX (by decide) hG d_Lb_inRange_19
  · have hG := hG.2 c3
    refine lv_iload_n hx hb d_Lb_inRange_7 rfl (lv_at hl 1 rfl) ?_
    refine ll_callsi cx hA hX (c_Lb_isName l D h cI cZ _ _ _ hG) (cw_Lb_41 cx.1.2.2.2.2 (ll_hR (by omega) (by decide))) rfl hl.1 rfl (Nat.le_of_ble_eq_true rfl) d_Lb_inRange_8 ⟨Nat.zero_le _, Nat.zero_le _⟩ (fun r4 f5 H locs hG hX => ?_)
    refine lv_if_eq (tgt := 18) hx hb d_Lb_inRange_11 (by decide) (fun c6 => ?_) (fun c6 => ?_)
    · have hG := hG.1 c6
      refine lv_iconst (v := 0) hx hb d_Lb_inRange_18 (by decide) ?_
      exact ll_zret cx hr hlk hX (by decide) hG d_Lb_inRange_19
    · have hG := hG.2 c6
      refine lv_iconst (v := 1) hx hb d_Lb_inRange_14 (by decide) ?_
      refine lv_goto (tgt := 19) hx hb d_Lb_inRange_15 (by decide) ?_
      exact ll_zret cx hr hlk hX (by decide) hG d_Lb_inRange_19
def G_Lb_isFile (f : ll_S) (a1 : Int32) (a2 : Int32) (K : Int32 → ll_S → Prop) : Prop := ((a1 < 0 → K 0 f) ∧ (¬ a1 < 0 → (((728 : Int32) < a1 → K 0 f) ∧ (¬ (728 : Int32) < a1 → (G_Lb_isName f (a1 - a1 / 9 * 9) (fun r3 f4 => ((r3 = 0 → K 0 f4) ∧ (¬ r3 = 0 → ((a2 < 0 → K 0 f4) ∧ (¬ a2 < 0 → (((7 : Int32) < a2 → K 0 f4) ∧ (¬ (7 : Int32) < a2 → K 1 f4))))))))))))
set_option maxHeartbeats 4000000 in
set_option maxRecDepth 100000 in
theorem c_Lb_isFile (l : Launch) (D : va_G) (h : Nat → Nat) (cI cZ : ClassId) (f : ll_S) (a1 : Int32) (a2 : Int32) (K : Int32 → ll_S → Prop) (hG : G_Lb_isFile f a1 a2 K) : ll_Mi l y_Lb_isFile (Cond.code y_Lb_isFile b_Lb_isFile 2 (some .boolean) :: ll_xt) (ll_rk 1) D [(cI, .int), (cZ, .boolean)] (wd_X h cI cZ) [.int a1, .int a2] f K := by
  refine ll_starti (own := "LoaderLab$Loaders") (by decide) rfl (Nat.le_of_ble_eq_true rfl) (fun p e s m below meth c ls cx hr hlk hA hX hl => ?_)
  have hl : lv_has ls 2 [(0, .int a1), (1, .int a2)] := hl
  obtain ⟨⟨hx, hb, -, -, -⟩, -⟩ := id cx
  unfold G_Lb_isFile at hG
  refine lv_iload_n hx hb d_Lb_isFile_0 rfl (lv_at hl 0 rfl) ?_
  refine lv_if_lt (tgt := 35) hx hb d_Lb_isFile_1 (by decide) (fun c1 => ?_) (fun c1 => ?_)
  · have hG := hG.1 c1
    refine lv_iconst (v := 0) hx hb d_Lb_isFile_35 (by decide) ?_
    exact ll_zret cx hr hlk hX (by decide) hG d_Lb_isFile_36
  · have hG := hG.2 c1
    refine lv_iload_n hx hb d_Lb_isFile_4 rfl (lv_at hl 0 rfl) ?_
    refine lv_sipush (v := 728) hx hb d_Lb_isFile_5 (by decide) ?_
    refine lv_icmp_gt (tgt := 35) hx hb d_Lb_isFile_8 (by decide) (fun c2 => ?_) (fun c2 => ?_)
    · have hG := hG.1 c2
      refine lv_iconst (v := 0) hx hb d_Lb_isFile_35 (by decide) ?_
      exact ll_zret cx hr hlk hX (by decide) hG d_Lb_isFile_36
    · have hG := hG.2 c2
      refine lv_iload_n hx hb d_Lb_isFile_11 rfl (lv_at hl 0 rfl) ?_
      refine lv_bipush (v := 9) hx hb d_Lb_isFile_12 (by decide) ?_
      refine lv_irem hx hb d_Lb_isFile_14 (by decide) ?_
      refine ll_callsi cx hA hX (c_Lb_isName l D h cI cZ _ _ _ hG) (cw_Lb_41 cx.1.2.2.2.2 (ll_hR (by omega) (by decide))) rfl hl.1 rfl (Nat.le_of_ble_eq_true rfl) d_Lb_isFile_15 ⟨Nat.zero_le _, Nat.zero_le _⟩ (fun r3 f4 H locs hG hX => ?_)
      refine lv_if_eq (tgt := 35) hx hb d_Lb_isFile_18 (by decide) (fun c5 => ?_) (fun c5 => ?_)
      · have hG := hG.1 c5
        refine lv_iconst (v := 0) hx hb d_Lb_isFile_35 (by decide) ?_
        exact ll_zret cx hr hlk hX (by decide) hG d_Lb_isFile_36
      · have hG := hG.2 c5
        refine lv_iload_n hx hb d_Lb_isFile_21 rfl (lv_at hl 1 rfl) ?_
        refine lv_if_lt (tgt := 35) hx hb d_Lb_isFile_22 (by decide) (fun c6 => ?_) (fun c6 => ?_)
        · have hG := hG.1 c6
          refine lv_iconst (v := 0) hx hb d_Lb_isFile_35 (by decide) ?_
          exact ll_zret cx hr hlk hX (by decide) hG d_Lb_isFile_36
        · have hG := hG.2 c6
          refine lv_iload_n hx hb d_Lb_isFile_25 rfl (lv_at hl 1 rfl) ?_
          refine lv_bipush (v := 7) hx hb d_Lb_isFile_26 (by decide) ?_
          refine lv_icmp_gt (tgt := 35) hx hb d_Lb_isFile_28 (by decide) (fun c7 => ?_) (fun c7 => ?_)
          · have hG := hG.1 c7
            refine lv_iconst (v := 0) hx hb d_Lb_isFile_35 (by decide) ?_
            exact ll_zret cx hr hlk hX (by decide) hG d_Lb_isFile_36
          · have hG := hG.2 c7
            refine lv_iconst (v := 1) hx hb d_Lb_isFile_31 (by decide) ?_
            refine lv_goto (tgt := 36) hx hb d_Lb_isFile_32 (by decide) ?_
            exact ll_zret cx hr hlk hX (by decide) hG d_Lb_isFile_36
def G_Lb_cell (f : ll_S) (a1 : Int32) (a2 : Int32) (K : Int32 → ll_S → Prop) : Prop := K ((a1 * 8) + a2) f
set_option maxHeartbeats 4000000 in
set_option maxRecDepth 100000 in
theorem c_Lb_cell (l : Launch) (D : va_G) (h : Nat → Nat) (cI cZ : ClassId) (f : ll_S) (a1 : Int32) (a2 : Int32) (K : Int32 → ll_S → Prop) (hG : G_Lb_cell f a1 a2 K) : ll_Mi l y_Lb_cell (Cond.code y_Lb_cell b_Lb_cell 2 (some .int) :: ll_xt) (ll_rk 0) D [(cI, .int), (cZ, .boolean)] (wd_X h cI cZ) [.int a1, .int a2] f K := by
  refine ll_starti (own := "LoaderLab$Loaders") (by decide) rfl (Nat.le_of_ble_eq_true rfl) (fun p e s m below meth c ls cx hr hlk hA hX hl => ?_)
  have hl : lv_has ls 2 [(0, .int a1), (1, .int a2)] := hl
  obtain ⟨⟨hx, hb, -, -, -⟩, -⟩ := id cx
  unfold G_Lb_cell at hG
  refine lv_iload_n hx hb d_Lb_cell_0 rfl (lv_at hl 0 rfl) ?_
  refine lv_bipush (v := 8) hx hb d_Lb_cell_1 (by decide) ?_
  refine lv_imul hx hb d_Lb_cell_3 ?_
  refine lv_iload_n hx hb d_Lb_cell_4 rfl (lv_at hl 1 rfl) ?_
  refine lv_iadd hx hb d_Lb_cell_5 ?_
  exact ll_iret cx hr hlk hX hG d_Lb_cell_6
def G_Lb_parentOf (f : ll_S) (a1 : Int32) (K : Int32 → ll_S → Prop) : Prop := (vp_in a1 5 ∧ K (f 0 (a1).toNatClampNeg) f)
set_option maxHeartbeats 4000000 in
set_option maxRecDepth 100000 in
theorem c_Lb_parentOf (l : Launch) (D : va_G) (h : Nat → Nat) (cI cZ : ClassId) (f : ll_S) (a1 : Int32) (K : Int32 → ll_S → Prop) (hG : G_Lb_parentOf f a1 K) : ll_Mi l y_Lb_parentOf (Cond.code y_Lb_parentOf b_Lb_parentOf 2 (some .int) :: ll_xt) (ll_rk 0) D [(cI, .int), (cZ, .boolean)] (wd_X h cI cZ) [.ref (h 1), .int a1] f K := by
  refine ll_starti (own := "LoaderLab$Loaders") (by decide) rfl (Nat.le_of_ble_eq_true rfl) (fun p e s m below meth c ls cx hr hlk hA hX hl => ?_)
  have hl : lv_has ls 2 [(0, .ref (h 1)), (1, .int a1)] := hl
  obtain ⟨⟨hx, hb, -, -, -⟩, -⟩ := id cx
  unfold G_Lb_parentOf at hG
  refine lv_aload_n hx hb d_Lb_parentOf_0 rfl (lv_at hl 0 rfl) ?_
  refine gx_Lb_parents cx hX d_Lb_parentOf_1 ?_
  refine lv_iload_n hx hb d_Lb_parentOf_4 rfl (lv_at hl 1 rfl) ?_
  refine lx_0 cx hX hG.1 d_Lb_parentOf_5 ?_
  replace hG := hG.2
  exact ll_iret cx hr hlk hX hG d_Lb_parentOf_6
def G_Lb_setParent (f : ll_S) (a1 : Int32) (a2 : Int32) (K : ll_S → Prop) : Prop := (vp_in a1 5 ∧ ∀ f1, f1 = ll_w f 0 (a1).toNatClampNeg a2 → K f1)
set_option maxHeartbeats 4000000 in
set_option maxRecDepth 100000 in
theorem c_Lb_setParent (l : Launch) (D : va_G) (h : Nat → Nat) (cI cZ : ClassId) (f : ll_S) (a1 : Int32) (a2 : Int32) (K : ll_S → Prop) (hG : G_Lb_setParent f a1 a2 K) : ll_Mv l y_Lb_setParent (Cond.code y_Lb_setParent b_Lb_setParent 3 none :: ll_xt) (ll_rk 0) D [(cI, .int), (cZ, .boolean)] (wd_X h cI cZ) [.ref (h 1), .int a1, .int a2] f K := by
  refine ll_startv (own := "LoaderLab$Loaders") (by decide) rfl (Nat.le_of_ble_eq_true rfl) (fun p e s m below meth c ls cx hr hlk hA hX hl => ?_)
  have hl : lv_has ls 3 [(0, .ref (h 1)), (1, .int a1), (2, .int a2)] := hl
  obtain ⟨⟨hx, hb, -, -, -⟩, -⟩ := id cx
  unfold G_Lb_setParent at hG
  refine lv_aload_n hx hb d_Lb_setParent_0 rfl (lv_at hl 0 rfl) ?_
  refine gx_Lb_parents cx hX d_Lb_setParent_1 ?_
  refine lv_iload_n hx hb d_Lb_setParent_4 rfl (lv_at hl 1 rfl) ?_
  refine lv_iload_n hx hb d_Lb_setParent_5 rfl (lv_at hl 2 rfl) ?_
  refine sx_0 cx hX hG.1 d_Lb_setParent_6 (fun f1 ef1 H locs hX => ?_)
  replace hG := hG.2 f1 ef1
  exact ll_vret cx hr hlk hX hG d_Lb_setParent_7
def G_Lb_hasFile (f : ll_S) (a1 : Int32) (a2 : Int32) (K : Int32 → ll_S → Prop) : Prop := (G_Lb_cell f a1 a2 (fun r1 f2 => (vp_in r1 40 ∧ (((f2 1 (r1).toNatClampNeg) = (-1 : Int32) → K 0 f2) ∧ (¬ (f2 1 (r1).toNatClampNeg) = (-1 : Int32) → K 1 f2)))))
set_option maxHeartbeats 4000000 in
set_option maxRecDepth 100000 in
theorem c_Lb_hasFile (l : Launch) (D : va_G) (h : Nat → Nat) (cI cZ : ClassId) (f : ll_S) (a1 : Int32) (a2 : Int32) (K : Int32 → ll_S → Prop) (hG : G_Lb_hasFile f a1 a2 K) : ll_Mi l y_Lb_hasFile (Cond.code y_Lb_hasFile b_Lb_hasFile 3 (some .boolean) :: ll_xt) (ll_rk 1) D [(cI, .int), (cZ, .boolean)] (wd_X h cI cZ) [.ref (h 1), .int a1, .int a2] f K := by
  refine ll_starti (own := "LoaderLab$Loaders") (by decide) rfl (Nat.le_of_ble_eq_true rfl) (fun p e s m below meth c ls cx hr hlk hA hX hl => ?_)
  have hl : lv_has ls 3 [(0, .ref (h 1)), (1, .int a1), (2, .int a2)] := hl
  obtain ⟨⟨hx, hb, -, -, -⟩, -⟩ := id cx
  unfold G_Lb_hasFile at hG
  refine lv_aload_n hx hb d_Lb_hasFile_0 rfl (lv_at hl 0 rfl) ?_
  refine gx_Lb_parts cx hX d_Lb_hasFile_1 ?_
  refine lv_iload_n hx hb d_Lb_hasFile_4 rfl (lv_at hl 1 rfl) ?_
  refine lv_iload_n hx hb d_Lb_hasFile_5 rfl (lv_at hl 2 rfl) ?_
  refine ll_callsi cx hA hX (c_Lb_cell l D h cI cZ _ _ _ _ hG) (cw_Lb_44 cx.1.2.2.2.2 (ll_hR (by omega) (by decide))) rfl hl.1 rfl (Nat.le_of_ble_eq_true rfl) d_Lb_hasFile_6 ⟨Nat.zero_le _, Nat.zero_le _⟩ (fun r1 f2 H locs hG hX => ?_)
  refine lx_1 cx hX hG.1 d_Lb_hasFile_9 ?_
  replace hG := hG.2
  refine lv_iconst (v := (-1)) hx hb d_Lb_hasFile_10 (by decide) ?_
  refine lv_icmp_eq (tgt := 18) hx hb d_Lb_hasFile_11 (by decide) (fun c3 => ?_) (fun c3 => ?_)
  · have hG := hG.1 c3
    refine lv_iconst (v := 0) hx hb d_Lb_hasFile_18 (by decide) ?_
    exact ll_zret cx hr hlk hX (by decide) hG d_Lb_hasFile_19
  · have hG := hG.2 c3
    refine lv_iconst (v := 1) hx hb d_Lb_hasFile_14 (by decide) ?_
    refine lv_goto (tgt := 19) hx hb d_Lb_hasFile_15 (by decide) ?_
    exact ll_zret cx hr hlk hX (by decide) hG d_Lb_hasFile_19
def G_Lb_putFile (f : ll_S) (a1 : Int32) (a2 : Int32) (a3 : Int32) (a4 : Int32) (K : ll_S → Prop) : Prop := (G_Lb_cell f a1 a2 (fun r1 f2 => (vp_in r1 40 ∧ ∀ f3, f3 = ll_w f2 1 (r1).toNatClampNeg a3 → (G_Lb_cell f3 a1 a2 (fun r4 f5 => (vp_in r4 40 ∧ ∀ f6, f6 = ll_w f5 2 (r4).toNatClampNeg a4 → K f6))))))
set_option maxHeartbeats 4000000 in
set_option maxRecDepth 100000 in
theorem c_Lb_putFile (l : Launch) (D : va_G) (h : Nat → Nat) (cI cZ : ClassId) (f : ll_S) (a1 : Int32) (a2 : Int32) (a3 : Int32) (a4 : Int32) (K : ll_S → Prop) (hG : G_Lb_putFile f a1 a2 a3 a4 K) : ll_Mv l y_Lb_putFile (Cond.code y_Lb_putFile b_Lb_putFile 5 none :: ll_xt) (ll_rk 1) D [(cI, .int), (cZ, .boolean)] (wd_X h cI cZ) [.ref (h 1), .int a1, .int a2, .int a3, .int a4] f K := by
  refine ll_startv (own := "LoaderLab$Loaders") (by decide) rfl (Nat.le_of_ble_eq_true rfl) (fun p e s m below meth c ls cx hr hlk hA hX hl => ?_)
  have hl : lv_has ls 5 [(0, .ref (h 1)), (1, .int a1), (2, .int a2), (3, .int a3), (4, .int a4)] := hl
  obtain ⟨⟨hx, hb, -, -, -⟩, -⟩ := id cx
  unfold G_Lb_putFile at hG
  refine lv_aload_n hx hb d_Lb_putFile_0 rfl (lv_at hl 0 rfl) ?_
  refine gx_Lb_parts cx hX d_Lb_putFile_1 ?_
  refine lv_iload_n hx hb d_Lb_putFile_4 rfl (lv_at hl 1 rfl) ?_
  refine lv_iload_n hx hb d_Lb_putFile_5 rfl (lv_at hl 2 rfl) ?_
  refine ll_callsi cx hA hX (c_Lb_cell l D h cI cZ _ _ _ _ hG) (cw_Lb_44 cx.1.2.2.2.2 (ll_hR (by omega) (by decide))) rfl hl.1 rfl (Nat.le_of_ble_eq_true rfl) d_Lb_putFile_6 ⟨Nat.zero_le _, Nat.zero_le _⟩ (fun r1 f2 H locs hG hX => ?_)
  refine lv_iload_n hx hb d_Lb_putFile_9 rfl (lv_at hl 3 rfl) ?_
  refine sx_1 cx hX hG.1 d_Lb_putFile_10 (fun f3 ef3 H locs hX => ?_)
  replace hG := hG.2 f3 ef3
  refine lv_aload_n hx hb d_Lb_putFile_11 rfl (lv_at hl 0 rfl) ?_
  refine gx_Lb_marks cx hX d_Lb_putFile_12 ?_
  refine lv_iload_n hx hb d_Lb_putFile_15 rfl (lv_at hl 1 rfl) ?_
  refine lv_iload_n hx hb d_Lb_putFile_16 rfl (lv_at hl 2 rfl) ?_
  refine ll_callsi cx hA hX (c_Lb_cell l D h cI cZ _ _ _ _ hG) (cw_Lb_44 cx.1.2.2.2.2 (ll_hR (by omega) (by decide))) rfl hl.1 rfl (Nat.le_of_ble_eq_true rfl) d_Lb_putFile_17 ⟨Nat.zero_le _, Nat.zero_le _⟩ (fun r4 f5 H locs hG hX => ?_)
  refine lv_iload hx hb d_Lb_putFile_20 (lv_at hl 4 rfl) ?_
  refine sx_2 cx hX hG.1 d_Lb_putFile_22 (fun f6 ef6 H locs hX => ?_)
  replace hG := hG.2 f6 ef6
  exact ll_vret cx hr hlk hX hG d_Lb_putFile_23
def G_Lb_dropFile (f : ll_S) (a1 : Int32) (a2 : Int32) (K : ll_S → Prop) : Prop := (G_Lb_cell f a1 a2 (fun r1 f2 => (vp_in r1 40 ∧ ∀ f3, f3 = ll_w f2 1 (r1).toNatClampNeg (-1) → K f3)))
set_option maxHeartbeats 4000000 in
set_option maxRecDepth 100000 in
theorem c_Lb_dropFile (l : Launch) (D : va_G) (h : Nat → Nat) (cI cZ : ClassId) (f : ll_S) (a1 : Int32) (a2 : Int32) (K : ll_S → Prop) (hG : G_Lb_dropFile f a1 a2 K) : ll_Mv l y_Lb_dropFile (Cond.code y_Lb_dropFile b_Lb_dropFile 3 none :: ll_xt) (ll_rk 1) D [(cI, .int), (cZ, .boolean)] (wd_X h cI cZ) [.ref (h 1), .int a1, .int a2] f K := by
  refine ll_startv (own := "LoaderLab$Loaders") (by decide) rfl (Nat.le_of_ble_eq_true rfl) (fun p e s m below meth c ls cx hr hlk hA hX hl => ?_)
  have hl : lv_has ls 3 [(0, .ref (h 1)), (1, .int a1), (2, .int a2)] := hl
  obtain ⟨⟨hx, hb, -, -, -⟩, -⟩ := id cx
  unfold G_Lb_dropFile at hG
  refine lv_aload_n hx hb d_Lb_dropFile_0 rfl (lv_at hl 0 rfl) ?_
  refine gx_Lb_parts cx hX d_Lb_dropFile_1 ?_
  refine lv_iload_n hx hb d_Lb_dropFile_4 rfl (lv_at hl 1 rfl) ?_
  refine lv_iload_n hx hb d_Lb_dropFile_5 rfl (lv_at hl 2 rfl) ?_
  refine ll_callsi cx hA hX (c_Lb_cell l D h cI cZ _ _ _ _ hG) (cw_Lb_44 cx.1.2.2.2.2 (ll_hR (by omega) (by decide))) rfl hl.1 rfl (Nat.le_of_ble_eq_true rfl) d_Lb_dropFile_6 ⟨Nat.zero_le _, Nat.zero_le _⟩ (fun r1 f2 H locs hG hX => ?_)
  refine lv_iconst (v := (-1)) hx hb d_Lb_dropFile_9 (by decide) ?_
  refine sx_1 cx hX hG.1 d_Lb_dropFile_10 (fun f3 ef3 H locs hX => ?_)
  replace hG := hG.2 f3 ef3
  exact ll_vret cx hr hlk hX hG d_Lb_dropFile_11
def G_Lb_fileSays (f : ll_S) (a1 : Int32) (a2 : Int32) (K : Int32 → ll_S → Prop) : Prop := (G_Lb_cell f a1 a2 (fun r1 f2 => (vp_in r1 40 ∧ K ((f2 1 (r1).toNatClampNeg) - (f2 1 (r1).toNatClampNeg) / 9 * 9) f2)))
set_option maxHeartbeats 4000000 in
set_option maxRecDepth 100000 in
theorem c_Lb_fileSays (l : Launch) (D : va_G) (h : Nat → Nat) (cI cZ : ClassId) (f : ll_S) (a1 : Int32) (a2 : Int32) (K : Int32 → ll_S → Prop) (hG : G_Lb_fileSays f a1 a2 K) : ll_Mi l y_Lb_fileSays (Cond.code y_Lb_fileSays b_Lb_fileSays 3 (some .int) :: ll_xt) (ll_rk 1) D [(cI, .int), (cZ, .boolean)] (wd_X h cI cZ) [.ref (h 1), .int a1, .int a2] f K := by
  refine ll_starti (own := "LoaderLab$Loaders") (by decide) rfl (Nat.le_of_ble_eq_true rfl) (fun p e s m below meth c ls cx hr hlk hA hX hl => ?_)
  have hl : lv_has ls 3 [(0, .ref (h 1)), (1, .int a1), (2, .int a2)] := hl
  obtain ⟨⟨hx, hb, -, -, -⟩, -⟩ := id cx
  unfold G_Lb_fileSays at hG
  refine lv_aload_n hx hb d_Lb_fileSays_0 rfl (lv_at hl 0 rfl) ?_
  refine gx_Lb_parts cx hX d_Lb_fileSays_1 ?_
  refine lv_iload_n hx hb d_Lb_fileSays_4 rfl (lv_at hl 1 rfl) ?_
  refine lv_iload_n hx hb d_Lb_fileSays_5 rfl (lv_at hl 2 rfl) ?_
  refine ll_callsi cx hA hX (c_Lb_cell l D h cI cZ _ _ _ _ hG) (cw_Lb_44 cx.1.2.2.2.2 (ll_hR (by omega) (by decide))) rfl hl.1 rfl (Nat.le_of_ble_eq_true rfl) d_Lb_fileSays_6 ⟨Nat.zero_le _, Nat.zero_le _⟩ (fun r1 f2 H locs hG hX => ?_)
  refine lx_1 cx hX hG.1 d_Lb_fileSays_9 ?_
  replace hG := hG.2
  refine lv_bipush (v := 9) hx hb d_Lb_fileSays_10 (by decide) ?_
  refine lv_irem hx hb d_Lb_fileSays_12 (by decide) ?_
  exact ll_iret cx hr hlk hX hG d_Lb_fileSays_13
def G_Lb_fileSuperclass (f : ll_S) (a1 : Int32) (a2 : Int32) (K : Int32 → ll_S → Prop) : Prop := (G_Lb_cell f a1 a2 (fun r1 f2 => (vp_in r1 40 ∧ K (((f2 1 (r1).toNatClampNeg) / 9) - ((f2 1 (r1).toNatClampNeg) / 9) / 9 * 9) f2)))
set_option maxHeartbeats 4000000 in
set_option maxRecDepth 100000 in
theorem c_Lb_fileSuperclass (l : Launch) (D : va_G) (h : Nat → Nat) (cI cZ : ClassId) (f : ll_S) (a1 : Int32) (a2 : Int32) (K : Int32 → ll_S → Prop) (hG : G_Lb_fileSuperclass f a1 a2 K) : ll_Mi l y_Lb_fileSuperclass (Cond.code y_Lb_fileSuperclass b_Lb_fileSuperclass 3 (some .int) :: ll_xt) (ll_rk 1) D [(cI, .int), (cZ, .boolean)] (wd_X h cI cZ) [.ref (h 1), .int a1, .int a2] f K := by
  refine ll_starti (own := "LoaderLab$Loaders") (by decide) rfl (Nat.le_of_ble_eq_true rfl) (fun p e s m below meth c ls cx hr hlk hA hX hl => ?_)
  have hl : lv_has ls 3 [(0, .ref (h 1)), (1, .int a1), (2, .int a2)] := hl
  obtain ⟨⟨hx, hb, -, -, -⟩, -⟩ := id cx
  unfold G_Lb_fileSuperclass at hG
  refine lv_aload_n hx hb d_Lb_fileSuperclass_0 rfl (lv_at hl 0 rfl) ?_
  refine gx_Lb_parts cx hX d_Lb_fileSuperclass_1 ?_
  refine lv_iload_n hx hb d_Lb_fileSuperclass_4 rfl (lv_at hl 1 rfl) ?_
  refine lv_iload_n hx hb d_Lb_fileSuperclass_5 rfl (lv_at hl 2 rfl) ?_
  refine ll_callsi cx hA hX (c_Lb_cell l D h cI cZ _ _ _ _ hG) (cw_Lb_44 cx.1.2.2.2.2 (ll_hR (by omega) (by decide))) rfl hl.1 rfl (Nat.le_of_ble_eq_true rfl) d_Lb_fileSuperclass_6 ⟨Nat.zero_le _, Nat.zero_le _⟩ (fun r1 f2 H locs hG hX => ?_)
  refine lx_1 cx hX hG.1 d_Lb_fileSuperclass_9 ?_
  replace hG := hG.2
  refine lv_bipush (v := 9) hx hb d_Lb_fileSuperclass_10 (by decide) ?_
  refine lv_idiv hx hb d_Lb_fileSuperclass_12 (by decide) ?_
  refine lv_bipush (v := 9) hx hb d_Lb_fileSuperclass_13 (by decide) ?_
  refine lv_irem hx hb d_Lb_fileSuperclass_15 (by decide) ?_
  exact ll_iret cx hr hlk hX hG d_Lb_fileSuperclass_16
def G_Lb_fileInterface (f : ll_S) (a1 : Int32) (a2 : Int32) (K : Int32 → ll_S → Prop) : Prop := (G_Lb_cell f a1 a2 (fun r1 f2 => (vp_in r1 40 ∧ K ((f2 1 (r1).toNatClampNeg) / 81) f2)))
set_option maxHeartbeats 4000000 in
set_option maxRecDepth 100000 in
theorem c_Lb_fileInterface (l : Launch) (D : va_G) (h : Nat → Nat) (cI cZ : ClassId) (f : ll_S) (a1 : Int32) (a2 : Int32) (K : Int32 → ll_S → Prop) (hG : G_Lb_fileInterface f a1 a2 K) : ll_Mi l y_Lb_fileInterface (Cond.code y_Lb_fileInterface b_Lb_fileInterface 3 (some .int) :: ll_xt) (ll_rk 1) D [(cI, .int), (cZ, .boolean)] (wd_X h cI cZ) [.ref (h 1), .int a1, .int a2] f K := by
  refine ll_starti (own := "LoaderLab$Loaders") (by decide) rfl (Nat.le_of_ble_eq_true rfl) (fun p e s m below meth c ls cx hr hlk hA hX hl => ?_)
  have hl : lv_has ls 3 [(0, .ref (h 1)), (1, .int a1), (2, .int a2)] := hl
  obtain ⟨⟨hx, hb, -, -, -⟩, -⟩ := id cx
  unfold G_Lb_fileInterface at hG
  refine lv_aload_n hx hb d_Lb_fileInterface_0 rfl (lv_at hl 0 rfl) ?_
  refine gx_Lb_parts cx hX d_Lb_fileInterface_1 ?_
  refine lv_iload_n hx hb d_Lb_fileInterface_4 rfl (lv_at hl 1 rfl) ?_
  refine lv_iload_n hx hb d_Lb_fileInterface_5 rfl (lv_at hl 2 rfl) ?_
  refine ll_callsi cx hA hX (c_Lb_cell l D h cI cZ _ _ _ _ hG) (cw_Lb_44 cx.1.2.2.2.2 (ll_hR (by omega) (by decide))) rfl hl.1 rfl (Nat.le_of_ble_eq_true rfl) d_Lb_fileInterface_6 ⟨Nat.zero_le _, Nat.zero_le _⟩ (fun r1 f2 H locs hG hX => ?_)
  refine lx_1 cx hX hG.1 d_Lb_fileInterface_9 ?_
  replace hG := hG.2
  refine lv_bipush (v := 81) hx hb d_Lb_fileInterface_10 (by decide) ?_
  refine lv_idiv hx hb d_Lb_fileInterface_12 (by decide) ?_
  exact ll_iret cx hr hlk hX hG d_Lb_fileInterface_13
def G_Lb_fileMarks (f : ll_S) (a1 : Int32) (a2 : Int32) (K : Int32 → ll_S → Prop) : Prop := (G_Lb_cell f a1 a2 (fun r1 f2 => (vp_in r1 40 ∧ K (f2 2 (r1).toNatClampNeg) f2)))
set_option maxHeartbeats 4000000 in
set_option maxRecDepth 100000 in
theorem c_Lb_fileMarks (l : Launch) (D : va_G) (h : Nat → Nat) (cI cZ : ClassId) (f : ll_S) (a1 : Int32) (a2 : Int32) (K : Int32 → ll_S → Prop) (hG : G_Lb_fileMarks f a1 a2 K) : ll_Mi l y_Lb_fileMarks (Cond.code y_Lb_fileMarks b_Lb_fileMarks 3 (some .int) :: ll_xt) (ll_rk 1) D [(cI, .int), (cZ, .boolean)] (wd_X h cI cZ) [.ref (h 1), .int a1, .int a2] f K := by
  refine ll_starti (own := "LoaderLab$Loaders") (by decide) rfl (Nat.le_of_ble_eq_true rfl) (fun p e s m below meth c ls cx hr hlk hA hX hl => ?_)
  have hl : lv_has ls 3 [(0, .ref (h 1)), (1, .int a1), (2, .int a2)] := hl
  obtain ⟨⟨hx, hb, -, -, -⟩, -⟩ := id cx
  unfold G_Lb_fileMarks at hG
  refine lv_aload_n hx hb d_Lb_fileMarks_0 rfl (lv_at hl 0 rfl) ?_
  refine gx_Lb_marks cx hX d_Lb_fileMarks_1 ?_
  refine lv_iload_n hx hb d_Lb_fileMarks_4 rfl (lv_at hl 1 rfl) ?_
  refine lv_iload_n hx hb d_Lb_fileMarks_5 rfl (lv_at hl 2 rfl) ?_
  refine ll_callsi cx hA hX (c_Lb_cell l D h cI cZ _ _ _ _ hG) (cw_Lb_44 cx.1.2.2.2.2 (ll_hR (by omega) (by decide))) rfl hl.1 rfl (Nat.le_of_ble_eq_true rfl) d_Lb_fileMarks_6 ⟨Nat.zero_le _, Nat.zero_le _⟩ (fun r1 f2 H locs hG hX => ?_)
  refine lx_2 cx hX hG.1 d_Lb_fileMarks_9 ?_
  replace hG := hG.2
  exact ll_iret cx hr hlk hX hG d_Lb_fileMarks_10
def G_Lb_scriptWay (f : ll_S) (a1 : Int32) (a2 : Int32) (K : Int32 → ll_S → Prop) : Prop := (G_Lb_cell f a1 a2 (fun r1 f2 => (vp_in r1 40 ∧ K (f2 3 (r1).toNatClampNeg) f2)))
set_option maxHeartbeats 4000000 in
set_option maxRecDepth 100000 in
theorem c_Lb_scriptWay (l : Launch) (D : va_G) (h : Nat → Nat) (cI cZ : ClassId) (f : ll_S) (a1 : Int32) (a2 : Int32) (K : Int32 → ll_S → Prop) (hG : G_Lb_scriptWay f a1 a2 K) : ll_Mi l y_Lb_scriptWay (Cond.code y_Lb_scriptWay b_Lb_scriptWay 3 (some .int) :: ll_xt) (ll_rk 1) D [(cI, .int), (cZ, .boolean)] (wd_X h cI cZ) [.ref (h 1), .int a1, .int a2] f K := by
  refine ll_starti (own := "LoaderLab$Loaders") (by decide) rfl (Nat.le_of_ble_eq_true rfl) (fun p e s m below meth c ls cx hr hlk hA hX hl => ?_)
  have hl : lv_has ls 3 [(0, .ref (h 1)), (1, .int a1), (2, .int a2)] := hl
  obtain ⟨⟨hx, hb, -, -, -⟩, -⟩ := id cx
  unfold G_Lb_scriptWay at hG
  refine lv_aload_n hx hb d_Lb_scriptWay_0 rfl (lv_at hl 0 rfl) ?_
  refine gx_Lb_ways cx hX d_Lb_scriptWay_1 ?_
  refine lv_iload_n hx hb d_Lb_scriptWay_4 rfl (lv_at hl 1 rfl) ?_
  refine lv_iload_n hx hb d_Lb_scriptWay_5 rfl (lv_at hl 2 rfl) ?_
  refine ll_callsi cx hA hX (c_Lb_cell l D h cI cZ _ _ _ _ hG) (cw_Lb_44 cx.1.2.2.2.2 (ll_hR (by omega) (by decide))) rfl hl.1 rfl (Nat.le_of_ble_eq_true rfl) d_Lb_scriptWay_6 ⟨Nat.zero_le _, Nat.zero_le _⟩ (fun r1 f2 H locs hG hX => ?_)
  refine lx_3 cx hX hG.1 d_Lb_scriptWay_9 ?_
  replace hG := hG.2
  exact ll_iret cx hr hlk hX hG d_Lb_scriptWay_10
def G_Lb_scriptNumber (f : ll_S) (a1 : Int32) (a2 : Int32) (K : Int32 → ll_S → Prop) : Prop := (G_Lb_cell f a1 a2 (fun r1 f2 => (vp_in r1 40 ∧ K (f2 4 (r1).toNatClampNeg) f2)))
set_option maxHeartbeats 4000000 in
set_option maxRecDepth 100000 in
theorem c_Lb_scriptNumber (l : Launch) (D : va_G) (h : Nat → Nat) (cI cZ : ClassId) (f : ll_S) (a1 : Int32) (a2 : Int32) (K : Int32 → ll_S → Prop) (hG : G_Lb_scriptNumber f a1 a2 K) : ll_Mi l y_Lb_scriptNumber (Cond.code y_Lb_scriptNumber b_Lb_scriptNumber 3 (some .int) :: ll_xt) (ll_rk 1) D [(cI, .int), (cZ, .boolean)] (wd_X h cI cZ) [.ref (h 1), .int a1, .int a2] f K := by
  refine ll_starti (own := "LoaderLab$Loaders") (by decide) rfl (Nat.le_of_ble_eq_true rfl) (fun p e s m below meth c ls cx hr hlk hA hX hl => ?_)
  have hl : lv_has ls 3 [(0, .ref (h 1)), (1, .int a1), (2, .int a2)] := hl
  obtain ⟨⟨hx, hb, -, -, -⟩, -⟩ := id cx
  unfold G_Lb_scriptNumber at hG
  refine lv_aload_n hx hb d_Lb_scriptNumber_0 rfl (lv_at hl 0 rfl) ?_
  refine gx_Lb_numbers cx hX d_Lb_scriptNumber_1 ?_
  refine lv_iload_n hx hb d_Lb_scriptNumber_4 rfl (lv_at hl 1 rfl) ?_
  refine lv_iload_n hx hb d_Lb_scriptNumber_5 rfl (lv_at hl 2 rfl) ?_
  refine ll_callsi cx hA hX (c_Lb_cell l D h cI cZ _ _ _ _ hG) (cw_Lb_44 cx.1.2.2.2.2 (ll_hR (by omega) (by decide))) rfl hl.1 rfl (Nat.le_of_ble_eq_true rfl) d_Lb_scriptNumber_6 ⟨Nat.zero_le _, Nat.zero_le _⟩ (fun r1 f2 H locs hG hX => ?_)
  refine lx_4 cx hX hG.1 d_Lb_scriptNumber_9 ?_
  replace hG := hG.2
  exact ll_iret cx hr hlk hX hG d_Lb_scriptNumber_10
def G_Lb_setScript (f : ll_S) (a1 : Int32) (a2 : Int32) (a3 : Int32) (a4 : Int32) (K : ll_S → Prop) : Prop := (G_Lb_cell f a1 a2 (fun r1 f2 => (vp_in r1 40 ∧ ∀ f3, f3 = ll_w f2 3 (r1).toNatClampNeg a3 → (G_Lb_cell f3 a1 a2 (fun r4 f5 => (vp_in r4 40 ∧ ∀ f6, f6 = ll_w f5 4 (r4).toNatClampNeg a4 → K f6))))))
set_option maxHeartbeats 4000000 in
set_option maxRecDepth 100000 in
theorem c_Lb_setScript (l : Launch) (D : va_G) (h : Nat → Nat) (cI cZ : ClassId) (f : ll_S) (a1 : Int32) (a2 : Int32) (a3 : Int32) (a4 : Int32) (K : ll_S → Prop) (hG : G_Lb_setScript f a1 a2 a3 a4 K) : ll_Mv l y_Lb_setScript (Cond.code y_Lb_setScript b_Lb_setScript 5 none :: ll_xt) (ll_rk 1) D [(cI, .int), (cZ, .boolean)] (wd_X h cI cZ) [.ref (h 1), .int a1, .int a2, .int a3, .int a4] f K := by
  refine ll_startv (own := "LoaderLab$Loaders") (by decide) rfl (Nat.le_of_ble_eq_true rfl) (fun p e s m below meth c ls cx hr hlk hA hX hl => ?_)
  have hl : lv_has ls 5 [(0, .ref (h 1)), (1, .int a1), (2, .int a2), (3, .int a3), (4, .int a4)] := hl
  obtain ⟨⟨hx, hb, -, -, -⟩, -⟩ := id cx
  unfold G_Lb_setScript at hG
  refine lv_aload_n hx hb d_Lb_setScript_0 rfl (lv_at hl 0 rfl) ?_
  refine gx_Lb_ways cx hX d_Lb_setScript_1 ?_
  refine lv_iload_n hx hb d_Lb_setScript_4 rfl (lv_at hl 1 rfl) ?_
  refine lv_iload_n hx hb d_Lb_setScript_5 rfl (lv_at hl 2 rfl) ?_
  refine ll_callsi cx hA hX (c_Lb_cell l D h cI cZ _ _ _ _ hG) (cw_Lb_44 cx.1.2.2.2.2 (ll_hR (by omega) (by decide))) rfl hl.1 rfl (Nat.le_of_ble_eq_true rfl) d_Lb_setScript_6 ⟨Nat.zero_le _, Nat.zero_le _⟩ (fun r1 f2 H locs hG hX => ?_)
  refine lv_iload_n hx hb d_Lb_setScript_9 rfl (lv_at hl 3 rfl) ?_
  refine sx_3 cx hX hG.1 d_Lb_setScript_10 (fun f3 ef3 H locs hX => ?_)
  replace hG := hG.2 f3 ef3
  refine lv_aload_n hx hb d_Lb_setScript_11 rfl (lv_at hl 0 rfl) ?_
  refine gx_Lb_numbers cx hX d_Lb_setScript_12 ?_
  refine lv_iload_n hx hb d_Lb_setScript_15 rfl (lv_at hl 1 rfl) ?_
  refine lv_iload_n hx hb d_Lb_setScript_16 rfl (lv_at hl 2 rfl) ?_
  refine ll_callsi cx hA hX (c_Lb_cell l D h cI cZ _ _ _ _ hG) (cw_Lb_44 cx.1.2.2.2.2 (ll_hR (by omega) (by decide))) rfl hl.1 rfl (Nat.le_of_ble_eq_true rfl) d_Lb_setScript_17 ⟨Nat.zero_le _, Nat.zero_le _⟩ (fun r4 f5 H locs hG hX => ?_)
  refine lv_iload hx hb d_Lb_setScript_20 (lv_at hl 4 rfl) ?_
  refine sx_4 cx hX hG.1 d_Lb_setScript_22 (fun f6 ef6 H locs hX => ?_)
  replace hG := hG.2 f6 ef6
  exact ll_vret cx hr hlk hX hG d_Lb_setScript_23
def G_Lb_recordOf (f : ll_S) (a1 : Int32) (a2 : Int32) (K : Int32 → ll_S → Prop) : Prop := (G_Lb_cell f a1 a2 (fun r1 f2 => (vp_in r1 40 ∧ K (f2 5 (r1).toNatClampNeg) f2)))
set_option maxHeartbeats 4000000 in
set_option maxRecDepth 100000 in
theorem c_Lb_recordOf (l : Launch) (D : va_G) (h : Nat → Nat) (cI cZ : ClassId) (f : ll_S) (a1 : Int32) (a2 : Int32) (K : Int32 → ll_S → Prop) (hG : G_Lb_recordOf f a1 a2 K) : ll_Mi l y_Lb_recordOf (Cond.code y_Lb_recordOf b_Lb_recordOf 3 (some .int) :: ll_xt) (ll_rk 1) D [(cI, .int), (cZ, .boolean)] (wd_X h cI cZ) [.ref (h 1), .int a1, .int a2] f K := by
  refine ll_starti (own := "LoaderLab$Loaders") (by decide) rfl (Nat.le_of_ble_eq_true rfl) (fun p e s m below meth c ls cx hr hlk hA hX hl => ?_)
  have hl : lv_has ls 3 [(0, .ref (h 1)), (1, .int a1), (2, .int a2)] := hl
  obtain ⟨⟨hx, hb, -, -, -⟩, -⟩ := id cx
  unfold G_Lb_recordOf at hG
  refine lv_aload_n hx hb d_Lb_recordOf_0 rfl (lv_at hl 0 rfl) ?_
  refine gx_Lb_records cx hX d_Lb_recordOf_1 ?_
  refine lv_iload_n hx hb d_Lb_recordOf_4 rfl (lv_at hl 1 rfl) ?_
  refine lv_iload_n hx hb d_Lb_recordOf_5 rfl (lv_at hl 2 rfl) ?_
  refine ll_callsi cx hA hX (c_Lb_cell l D h cI cZ _ _ _ _ hG) (cw_Lb_44 cx.1.2.2.2.2 (ll_hR (by omega) (by decide))) rfl hl.1 rfl (Nat.le_of_ble_eq_true rfl) d_Lb_recordOf_6 ⟨Nat.zero_le _, Nat.zero_le _⟩ (fun r1 f2 H locs hG hX => ?_)
  refine lx_5 cx hX hG.1 d_Lb_recordOf_9 ?_
  replace hG := hG.2
  exact ll_iret cx hr hlk hX hG d_Lb_recordOf_10
def G_Lb_putRecord (f : ll_S) (a1 : Int32) (a2 : Int32) (a3 : Int32) (K : ll_S → Prop) : Prop := (G_Lb_cell f a1 a2 (fun r1 f2 => (vp_in r1 40 ∧ ∀ f3, f3 = ll_w f2 5 (r1).toNatClampNeg a3 → K f3)))
set_option maxHeartbeats 4000000 in
set_option maxRecDepth 100000 in
theorem c_Lb_putRecord (l : Launch) (D : va_G) (h : Nat → Nat) (cI cZ : ClassId) (f : ll_S) (a1 : Int32) (a2 : Int32) (a3 : Int32) (K : ll_S → Prop) (hG : G_Lb_putRecord f a1 a2 a3 K) : ll_Mv l y_Lb_putRecord (Cond.code y_Lb_putRecord b_Lb_putRecord 4 none :: ll_xt) (ll_rk 1) D [(cI, .int), (cZ, .boolean)] (wd_X h cI cZ) [.ref (h 1), .int a1, .int a2, .int a3] f K := by
  refine ll_startv (own := "LoaderLab$Loaders") (by decide) rfl (Nat.le_of_ble_eq_true rfl) (fun p e s m below meth c ls cx hr hlk hA hX hl => ?_)
  have hl : lv_has ls 4 [(0, .ref (h 1)), (1, .int a1), (2, .int a2), (3, .int a3)] := hl
  obtain ⟨⟨hx, hb, -, -, -⟩, -⟩ := id cx
  unfold G_Lb_putRecord at hG
  refine lv_aload_n hx hb d_Lb_putRecord_0 rfl (lv_at hl 0 rfl) ?_
  refine gx_Lb_records cx hX d_Lb_putRecord_1 ?_
  refine lv_iload_n hx hb d_Lb_putRecord_4 rfl (lv_at hl 1 rfl) ?_
  refine lv_iload_n hx hb d_Lb_putRecord_5 rfl (lv_at hl 2 rfl) ?_
  refine ll_callsi cx hA hX (c_Lb_cell l D h cI cZ _ _ _ _ hG) (cw_Lb_44 cx.1.2.2.2.2 (ll_hR (by omega) (by decide))) rfl hl.1 rfl (Nat.le_of_ble_eq_true rfl) d_Lb_putRecord_6 ⟨Nat.zero_le _, Nat.zero_le _⟩ (fun r1 f2 H locs hG hX => ?_)
  refine lv_iload_n hx hb d_Lb_putRecord_9 rfl (lv_at hl 3 rfl) ?_
  refine sx_5 cx hX hG.1 d_Lb_putRecord_10 (fun f3 ef3 H locs hX => ?_)
  replace hG := hG.2 f3 ef3
  exact ll_vret cx hr hlk hX hG d_Lb_putRecord_11
def G_Lb_isUnderWay (f : ll_S) (a1 : Int32) (a2 : Int32) (K : Int32 → ll_S → Prop) : Prop := (G_Lb_cell f a1 a2 (fun r1 f2 => (vp_in r1 40 ∧ (ll_b01 (f2 6 (r1).toNatClampNeg) ∧ K (f2 6 (r1).toNatClampNeg) f2))))
set_option maxHeartbeats 4000000 in
set_option maxRecDepth 100000 in
theorem c_Lb_isUnderWay (l : Launch) (D : va_G) (h : Nat → Nat) (cI cZ : ClassId) (f : ll_S) (a1 : Int32) (a2 : Int32) (K : Int32 → ll_S → Prop) (hG : G_Lb_isUnderWay f a1 a2 K) : ll_Mi l y_Lb_isUnderWay (Cond.code y_Lb_isUnderWay b_Lb_isUnderWay 3 (some .boolean) :: ll_xt) (ll_rk 1) D [(cI, .int), (cZ, .boolean)] (wd_X h cI cZ) [.ref (h 1), .int a1, .int a2] f K := by
  refine ll_starti (own := "LoaderLab$Loaders") (by decide) rfl (Nat.le_of_ble_eq_true rfl) (fun p e s m below meth c ls cx hr hlk hA hX hl => ?_)
  have hl : lv_has ls 3 [(0, .ref (h 1)), (1, .int a1), (2, .int a2)] := hl
  obtain ⟨⟨hx, hb, -, -, -⟩, -⟩ := id cx
  unfold G_Lb_isUnderWay at hG
  refine lv_aload_n hx hb d_Lb_isUnderWay_0 rfl (lv_at hl 0 rfl) ?_
  refine gx_Lb_underWay cx hX d_Lb_isUnderWay_1 ?_
  refine lv_iload_n hx hb d_Lb_isUnderWay_4 rfl (lv_at hl 1 rfl) ?_
  refine lv_iload_n hx hb d_Lb_isUnderWay_5 rfl (lv_at hl 2 rfl) ?_
  refine ll_callsi cx hA hX (c_Lb_cell l D h cI cZ _ _ _ _ hG) (cw_Lb_44 cx.1.2.2.2.2 (ll_hR (by omega) (by decide))) rfl hl.1 rfl (Nat.le_of_ble_eq_true rfl) d_Lb_isUnderWay_6 ⟨Nat.zero_le _, Nat.zero_le _⟩ (fun r1 f2 H locs hG hX => ?_)
  refine lx_6 cx hX hG.1 d_Lb_isUnderWay_9 ?_
  replace hG := hG.2
  exact ll_zret cx hr hlk hX (ll_b01n hG.1) hG.2 d_Lb_isUnderWay_10
def G_Lb_setUnderWay (f : ll_S) (a1 : Int32) (a2 : Int32) (a3 : Int32) (K : ll_S → Prop) : Prop := (G_Lb_cell f a1 a2 (fun r1 f2 => (vp_in r1 40 ∧ ∀ f3, f3 = ll_w f2 6 (r1).toNatClampNeg (vp_nar .boolean a3) → K f3)))
set_option maxHeartbeats 4000000 in
set_option maxRecDepth 100000 in
theorem c_Lb_setUnderWay (l : Launch) (D : va_G) (h : Nat → Nat) (cI cZ : ClassId) (f : ll_S) (a1 : Int32) (a2 : Int32) (a3 : Int32) (K : ll_S → Prop) (hG : G_Lb_setUnderWay f a1 a2 a3 K) : ll_Mv l y_Lb_setUnderWay (Cond.code y_Lb_setUnderWay b_Lb_setUnderWay 4 none :: ll_xt) (ll_rk 1) D [(cI, .int), (cZ, .boolean)] (wd_X h cI cZ) [.ref (h 1), .int a1, .int a2, .int a3] f K := by
  refine ll_startv (own := "LoaderLab$Loaders") (by decide) rfl (Nat.le_of_ble_eq_true rfl) (fun p e s m below meth c ls cx hr hlk hA hX hl => ?_)
  have hl : lv_has ls 4 [(0, .ref (h 1)), (1, .int a1), (2, .int a2), (3, .int a3)] := hl
  obtain ⟨⟨hx, hb, -, -, -⟩, -⟩ := id cx
  unfold G_Lb_setUnderWay at hG
  refine lv_aload_n hx hb d_Lb_setUnderWay_0 rfl (lv_at hl 0 rfl) ?_
  refine gx_Lb_underWay cx hX d_Lb_setUnderWay_1 ?_
  refine lv_iload_n hx hb d_Lb_setUnderWay_4 rfl (lv_at hl 1 rfl) ?_
  refine lv_iload_n hx hb d_Lb_setUnderWay_5 rfl (lv_at hl 2 rfl) ?_
  refine ll_callsi cx hA hX (c_Lb_cell l D h cI cZ _ _ _ _ hG) (cw_Lb_44 cx.1.2.2.2.2 (ll_hR (by omega) (by decide))) rfl hl.1 rfl (Nat.le_of_ble_eq_true rfl) d_Lb_setUnderWay_6 ⟨Nat.zero_le _, Nat.zero_le _⟩ (fun r1 f2 H locs hG hX => ?_)
  refine lv_iload_n hx hb d_Lb_setUnderWay_9 rfl (lv_at hl 3 rfl) ?_
  refine sx_6 cx hX hG.1 d_Lb_setUnderWay_10 (fun f3 ef3 H locs hX => ?_)
  replace hG := hG.2 f3 ef3
  exact ll_vret cx hr hlk hX hG d_Lb_setUnderWay_11
def G_Lb_holds (f : ll_S) (a1 : Int32) (a2 : Int32) (K : Int32 → ll_S → Prop) : Prop := ((((a1 >>> (a2 &&& 31)) &&& 1) = 0 → K 0 f) ∧ (¬ ((a1 >>> (a2 &&& 31)) &&& 1) = 0 → K 1 f))
set_option maxHeartbeats 4000000 in
set_option maxRecDepth 100000 in
theorem c_Lb_holds (l : Launch) (D : va_G) (h : Nat → Nat) (cI cZ : ClassId) (f : ll_S) (a1 : Int32) (a2 : Int32) (K : Int32 → ll_S → Prop) (hG : G_Lb_holds f a1 a2 K) : ll_Mi l y_Lb_holds (Cond.code y_Lb_holds b_Lb_holds 2 (some .boolean) :: ll_xt) (ll_rk 0) D [(cI, .int), (cZ, .boolean)] (wd_X h cI cZ) [.int a1, .int a2] f K := by
  refine ll_starti (own := "LoaderLab$Loaders") (by decide) rfl (Nat.le_of_ble_eq_true rfl) (fun p e s m below meth c ls cx hr hlk hA hX hl => ?_)
  have hl : lv_has ls 2 [(0, .int a1), (1, .int a2)] := hl
  obtain ⟨⟨hx, hb, -, -, -⟩, -⟩ := id cx
  unfold G_Lb_holds at hG
  refine lv_iload_n hx hb d_Lb_holds_0 rfl (lv_at hl 0 rfl) ?_
  refine lv_iload_n hx hb d_Lb_holds_1 rfl (lv_at hl 1 rfl) ?_
  refine lv_ishr hx hb d_Lb_holds_2 ?_
  refine lv_iconst (v := 1) hx hb d_Lb_holds_3 (by decide) ?_
  refine lv_iand hx hb d_Lb_holds_4 ?_
  refine lv_if_eq (tgt := 12) hx hb d_Lb_holds_5 (by decide) (fun c1 => ?_) (fun c1 => ?_)
  · have hG := hG.1 c1
    refine lv_iconst (v := 0) hx hb d_Lb_holds_12 (by decide) ?_
    exact ll_zret cx hr hlk hX (by decide) hG d_Lb_holds_13
  · have hG := hG.2 c1
    refine lv_iconst (v := 1) hx hb d_Lb_holds_8 (by decide) ?_
    refine lv_goto (tgt := 13) hx hb d_Lb_holds_9 (by decide) ?_
    exact ll_zret cx hr hlk hX (by decide) hG d_Lb_holds_13
def G_Lb_arePeers (f : ll_S) (a1 : Int32) (a2 : Int32) (a3 : Int32) (K : Int32 → ll_S → Prop) : Prop := (G_Lb_cell f a1 a3 (fun r1 f2 => (vp_in r1 40 ∧ (G_Lb_holds f2 (f2 7 (r1).toNatClampNeg) a2 (fun r3 f4 => (ll_b01 r3 ∧ K r3 f4))))))
set_option maxHeartbeats 4000000 in
set_option maxRecDepth 100000 in
theorem c_Lb_arePeers (l : Launch) (D : va_G) (h : Nat → Nat) (cI cZ : ClassId) (f : ll_S) (a1 : Int32) (a2 : Int32) (a3 : Int32) (K : Int32 → ll_S → Prop) (hG : G_Lb_arePeers f a1 a2 a3 K) : ll_Mi l y_Lb_arePeers (Cond.code y_Lb_arePeers b_Lb_arePeers 4 (some .boolean) :: ll_xt) (ll_rk 1) D [(cI, .int), (cZ, .boolean)] (wd_X h cI cZ) [.ref (h 1), .int a1, .int a2, .int a3] f K := by
  refine ll_starti (own := "LoaderLab$Loaders") (by decide) rfl (Nat.le_of_ble_eq_true rfl) (fun p e s m below meth c ls cx hr hlk hA hX hl => ?_)
  have hl : lv_has ls 4 [(0, .ref (h 1)), (1, .int a1), (2, .int a2), (3, .int a3)] := hl
  obtain ⟨⟨hx, hb, -, -, -⟩, -⟩ := id cx
  unfold G_Lb_arePeers at hG
  refine lv_aload_n hx hb d_Lb_arePeers_0 rfl (lv_at hl 0 rfl) ?_
  refine gx_Lb_peers cx hX d_Lb_arePeers_1 ?_
  refine lv_iload_n hx hb d_Lb_arePeers_4 rfl (lv_at hl 1 rfl) ?_
  refine lv_iload_n hx hb d_Lb_arePeers_5 rfl (lv_at hl 3 rfl) ?_
  refine ll_callsi cx hA hX (c_Lb_cell l D h cI cZ _ _ _ _ hG) (cw_Lb_44 cx.1.2.2.2.2 (ll_hR (by omega) (by decide))) rfl hl.1 rfl (Nat.le_of_ble_eq_true rfl) d_Lb_arePeers_6 ⟨Nat.zero_le _, Nat.zero_le _⟩ (fun r1 f2 H locs hG hX => ?_)
  refine lx_7 cx hX hG.1 d_Lb_arePeers_9 ?_
  replace hG := hG.2
  refine lv_iload_n hx hb d_Lb_arePeers_10 rfl (lv_at hl 2 rfl) ?_
  refine ll_callsi cx hA hX (c_Lb_holds l D h cI cZ _ _ _ _ hG) (cw_Lb_48 cx.1.2.2.2.2 (ll_hR (by omega) (by decide))) rfl hl.1 rfl (Nat.le_of_ble_eq_true rfl) d_Lb_arePeers_11 ⟨Nat.zero_le _, Nat.zero_le _⟩ (fun r3 f4 H locs hG hX => ?_)
  exact ll_zret cx hr hlk hX (ll_b01n hG.1) hG.2 d_Lb_arePeers_14
def G_Lb_differ_L (K : Int32 → ll_S → Prop) : Nat → Nat → Int32 → Int32 → Int32 → Int32 → ll_S → Prop
  | 0, _, _, _, _, _, _ => False
  | k + 1, _, x1, x2, x3, x4, f => (((5 : Int32) ≤ x4 → K 0 f) ∧ (¬ (5 : Int32) ≤ x4 → (G_Lb_recordOf f x4 x2 (fun r2 f3 => (G_Lb_holds f3 x1 x4 (fun r4 f5 => ((r4 = 0 → (G_Lb_differ_L K k 0 x1 x2 x3 (x4 + 1) f5)) ∧ (¬ r4 = 0 → ((r2 = 0 → (G_Lb_differ_L K k 0 x1 x2 x3 (x4 + 1) f5)) ∧ (¬ r2 = 0 → ((r2 = x3 → (G_Lb_differ_L K k 0 x1 x2 x3 (x4 + 1) f5)) ∧ (¬ r2 = x3 → K 1 f5))))))))))))
def G_Lb_differ (f : ll_S) (a1 : Int32) (a2 : Int32) (a3 : Int32) (K : Int32 → ll_S → Prop) : Prop := (∃ k, G_Lb_differ_L K k 0 a1 a2 a3 0 f)
set_option maxHeartbeats 4000000 in
set_option maxRecDepth 100000 in
theorem w_Lb_differ (l : Launch) {p : Program} {e : Env} {s : State} {m : MethodId} {args : Array Value} {below : List Frame} {meth : Method} {c : Code} {D : va_G} {h : Nat → Nat} {cI cZ : ClassId} {f0 : ll_S} {K : Int32 → ll_S → Prop} (cx : ll_C p m c b_Lb_differ 6 s args "LoaderLab$Loaders" D [(cI, .int), (cZ, .boolean)]) (hr : meth.sig.returnType = (some .boolean)) (hlk : meth.locks = false) (hA : ∀ q, s.heap.size ≤ q → va_A (wd_X h cI cZ f0) s.heap.size q) : ∀ (k : Nat), (∀ (x1 : Int32) (x2 : Int32) (x3 : Int32) (x4 : Int32) (f : ll_S) (H : Heap) (locs : List Loc) (ls : Array Slot), G_Lb_differ_L K k 0 x1 x2 x3 x4 f → ll_X D (wd_X h cI cZ) (va_A (wd_X h cI cZ f0) s.heap.size) s.heap H locs f → lv_has ls 6 [(0, .ref (h 1)), (1, .int x1), (2, .int x2), (3, .int x3), (4, .int x4)] → W p l e (ll_rk 2) s m args below meth c H locs 0 0 (ll_Qi below args s D [(cI, .int), (cZ, .boolean)] (wd_X h cI cZ) f0 K) (F0 m 3 ls [])) := by
  obtain ⟨⟨hx, hb, -, -, -⟩, -⟩ := id cx
  intro k
  induction k with
  | zero => exact fun _ _ _ _ _ _ _ _ hG => hG.elim
  | succ k ih =>
    · intro x1 x2 x3 x4 f H locs ls hG hX hl
      rw [G_Lb_differ_L] at hG
      refine lv_iload hx hb d_Lb_differ_3 (lv_at hl 4 rfl) ?_
      refine lv_iconst (v := 5) hx hb d_Lb_differ_5 (by decide) ?_
      refine lv_icmp_ge (tgt := 46) hx hb d_Lb_differ_6 (by decide) (fun c1 => ?_) (fun c1 => ?_)
      · have hG := hG.1 c1
        refine lv_iconst (v := 0) hx hb d_Lb_differ_46 (by decide) ?_
        exact ll_zret cx hr hlk hX (by decide) hG d_Lb_differ_47
      · have hG := hG.2 c1
        refine lv_aload_n hx hb d_Lb_differ_9 rfl (lv_at hl 0 rfl) ?_
        refine lv_iload hx hb d_Lb_differ_10 (lv_at hl 4 rfl) ?_
        refine lv_iload_n hx hb d_Lb_differ_12 rfl (lv_at hl 2 rfl) ?_
        refine ll_callvi cx hA hX (c_Lb_recordOf l D h cI cZ _ _ _ _ hG) (cw_Lb_59 cx.1.2.2.2.2 (ll_hR (by omega) (by decide))) (va_recv cx.2 hX.1 (ci := 1) (q0 := 1) rfl rfl) rfl hl.1 rfl (Nat.le_of_ble_eq_true rfl) d_Lb_differ_13 ⟨Nat.zero_le _, Nat.zero_le _⟩ (fun r2 f3 H locs hG hX => ?_)
        refine lv_istore (lv' := [(5, .int r2), (0, .ref (h 1)), (1, .int x1), (2, .int x2), (3, .int x3), (4, .int x4)]) hx hb d_Lb_differ_16 hl (by decide) rfl (fun ls hl => ?_)
        refine lv_iload_n hx hb d_Lb_differ_18 rfl (lv_at hl 2 rfl) ?_
        refine lv_iload hx hb d_Lb_differ_19 (lv_at hl 5 rfl) ?_
        refine ll_callsi cx hA hX (c_Lb_holds l D h cI cZ _ _ _ _ hG) (cw_Lb_48 cx.1.2.2.2.2 (ll_hR (by omega) (by decide))) rfl hl.1 rfl (Nat.le_of_ble_eq_true rfl) d_Lb_differ_21 ⟨Nat.zero_le _, Nat.zero_le _⟩ (fun r4 f5 H locs hG hX => ?_)
        refine lv_if_eq (tgt := 40) hx hb d_Lb_differ_24 (by decide) (fun c6 => ?_) (fun c6 => ?_)
        · have hG := hG.1 c6
          refine lv_iinc (v := (x4 + 1)) (lv' := [(4, .int (x4 + 1)), (5, .int r2), (0, .ref (h 1)), (1, .int x1), (2, .int x2), (3, .int x3)]) hx hb d_Lb_differ_40 hl (k := 5) rfl rfl (by decide) rfl (fun ls hl => ?_)
          refine lv_goto (tgt := 3) hx hb d_Lb_differ_43 (by decide) ?_
          exact ih _ _ _ _ _ _ _ _ hG hX (lv_sub hl [2, 3, 4, 5, 0] rfl)
        · have hG := hG.2 c6
          refine lv_iload hx hb d_Lb_differ_27 (lv_at hl 0 rfl) ?_
          refine lv_if_eq (tgt := 40) hx hb d_Lb_differ_29 (by decide) (fun c7 => ?_) (fun c7 => ?_)
          · have hG := hG.1 c7
            refine lv_iinc (v := (x4 + 1)) (lv' := [(4, .int (x4 + 1)), (5, .int r2), (0, .ref (h 1)), (1, .int x1), (2, .int x2), (3, .int x3)]) hx hb d_Lb_differ_40 hl (k := 5) rfl rfl (by decide) rfl (fun ls hl => ?_)
            refine lv_goto (tgt := 3) hx hb d_Lb_differ_43 (by decide) ?_
            exact ih _ _ _ _ _ _ _ _ hG hX (lv_sub hl [2, 3, 4, 5, 0] rfl)
          · have hG := hG.2 c7
            refine lv_iload hx hb d_Lb_differ_32 (lv_at hl 0 rfl) ?_
            refine lv_iload_n hx hb d_Lb_differ_34 rfl (lv_at hl 4 rfl) ?_
            refine lv_icmp_eq (tgt := 40) hx hb d_Lb_differ_35 (by decide) (fun c8 => ?_) (fun c8 => ?_)
            · have hG := hG.1 c8
              refine lv_iinc (v := (x4 + 1)) (lv' := [(4, .int (x4 + 1)), (5, .int r2), (0, .ref (h 1)), (1, .int x1), (2, .int x2), (3, .int x3)]) hx hb d_Lb_differ_40 hl (k := 5) rfl rfl (by decide) rfl (fun ls hl => ?_)
              refine lv_goto (tgt := 3) hx hb d_Lb_differ_43 (by decide) ?_
              exact ih _ _ _ _ _ _ _ _ hG hX (lv_sub hl [2, 3, 4, 5, 0] rfl)
            · have hG := hG.2 c8
              refine lv_iconst (v := 1) hx hb d_Lb_differ_38 (by decide) ?_
              exact ll_zret cx hr hlk hX (by decide) hG d_Lb_differ_39
set_option maxHeartbeats 4000000 in
set_option maxRecDepth 100000 in
theorem c_Lb_differ (l : Launch) (D : va_G) (h : Nat → Nat) (cI cZ : ClassId) (f : ll_S) (a1 : Int32) (a2 : Int32) (a3 : Int32) (K : Int32 → ll_S → Prop) (hG : G_Lb_differ f a1 a2 a3 K) : ll_Mi l y_Lb_differ (Cond.code y_Lb_differ b_Lb_differ 6 (some .boolean) :: ll_xt) (ll_rk 2) D [(cI, .int), (cZ, .boolean)] (wd_X h cI cZ) [.ref (h 1), .int a1, .int a2, .int a3] f K := by
  refine ll_starti (own := "LoaderLab$Loaders") (by decide) rfl (Nat.le_of_ble_eq_true rfl) (fun p e s m below meth c ls cx hr hlk hA hX hl => ?_)
  have hl : lv_has ls 6 [(0, .ref (h 1)), (1, .int a1), (2, .int a2), (3, .int a3)] := hl
  obtain ⟨⟨hx, hb, -, -, -⟩, -⟩ := id cx
  unfold G_Lb_differ at hG
  refine lv_iconst (v := 0) hx hb d_Lb_differ_0 (by decide) ?_
  refine lv_istore (lv' := [(4, .int 0), (0, .ref (h 1)), (1, .int a1), (2, .int a2), (3, .int a3)]) hx hb d_Lb_differ_1 hl (by decide) rfl (fun ls hl => ?_)
  obtain ⟨kf, hG⟩ := hG
  exact (w_Lb_differ l cx hr hlk hA kf) _ _ _ _ _ _ _ _ hG hX (lv_sub hl [1, 2, 3, 4, 0] rfl)
def G_Lb_peersDiffer (f : ll_S) (a1 : Int32) (a2 : Int32) (a3 : Int32) (K : Int32 → ll_S → Prop) : Prop := (G_Lb_cell f a1 a2 (fun r1 f2 => (vp_in r1 40 ∧ (G_Lb_differ f2 (f2 7 (r1).toNatClampNeg) a2 a3 (fun r3 f4 => (ll_b01 r3 ∧ K r3 f4))))))
set_option maxHeartbeats 4000000 in
set_option maxRecDepth 100000 in
theorem c_Lb_peersDiffer (l : Launch) (D : va_G) (h : Nat → Nat) (cI cZ : ClassId) (f : ll_S) (a1 : Int32) (a2 : Int32) (a3 : Int32) (K : Int32 → ll_S → Prop) (hG : G_Lb_peersDiffer f a1 a2 a3 K) : ll_Mi l y_Lb_peersDiffer (Cond.code y_Lb_peersDiffer b_Lb_peersDiffer 4 (some .boolean) :: ll_xt) (ll_rk 3) D [(cI, .int), (cZ, .boolean)] (wd_X h cI cZ) [.ref (h 1), .int a1, .int a2, .int a3] f K := by
  refine ll_starti (own := "LoaderLab$Loaders") (by decide) rfl (Nat.le_of_ble_eq_true rfl) (fun p e s m below meth c ls cx hr hlk hA hX hl => ?_)
  have hl : lv_has ls 4 [(0, .ref (h 1)), (1, .int a1), (2, .int a2), (3, .int a3)] := hl
  obtain ⟨⟨hx, hb, -, -, -⟩, -⟩ := id cx
  unfold G_Lb_peersDiffer at hG
  refine lv_aload_n hx hb d_Lb_peersDiffer_0 rfl (lv_at hl 0 rfl) ?_
  refine lv_aload_n hx hb d_Lb_peersDiffer_1 rfl (lv_at hl 0 rfl) ?_
  refine gx_Lb_peers cx hX d_Lb_peersDiffer_2 ?_
  refine lv_iload_n hx hb d_Lb_peersDiffer_5 rfl (lv_at hl 1 rfl) ?_
  refine lv_iload_n hx hb d_Lb_peersDiffer_6 rfl (lv_at hl 2 rfl) ?_
  refine ll_callsi cx hA hX (c_Lb_cell l D h cI cZ _ _ _ _ hG) (cw_Lb_44 cx.1.2.2.2.2 (ll_hR (by omega) (by decide))) rfl hl.1 rfl (Nat.le_of_ble_eq_true rfl) d_Lb_peersDiffer_7 ⟨Nat.zero_le _, Nat.zero_le _⟩ (fun r1 f2 H locs hG hX => ?_)
  refine lx_7 cx hX hG.1 d_Lb_peersDiffer_10 ?_
  replace hG := hG.2
  refine lv_iload_n hx hb d_Lb_peersDiffer_11 rfl (lv_at hl 2 rfl) ?_
  refine lv_iload_n hx hb d_Lb_peersDiffer_12 rfl (lv_at hl 3 rfl) ?_
  refine ll_callvi cx hA hX (c_Lb_differ l D h cI cZ _ _ _ _ _ hG) (cw_Lb_52 cx.1.2.2.2.2 (ll_hR (by omega) (by decide))) (va_recv cx.2 hX.1 (ci := 1) (q0 := 1) rfl rfl) rfl hl.1 rfl (Nat.le_of_ble_eq_true rfl) d_Lb_peersDiffer_13 ⟨Nat.zero_le _, Nat.zero_le _⟩ (fun r3 f4 H locs hG hX => ?_)
  exact ll_zret cx hr hlk hX (ll_b01n hG.1) hG.2 d_Lb_peersDiffer_16
def G_Lb_anyRecord_L (K : Int32 → ll_S → Prop) : Nat → Nat → Int32 → Int32 → Int32 → Int32 → ll_S → Prop
  | 0, _, _, _, _, _, _ => False
  | k + 1, _, x1, x2, x3, x4, f => (((5 : Int32) ≤ x4 → K x3 f) ∧ (¬ (5 : Int32) ≤ x4 → (G_Lb_holds f x1 x4 (fun r2 f3 => ((r2 = 0 → (G_Lb_anyRecord_L K k 0 x1 x2 x3 (x4 + 1) f3)) ∧ (¬ r2 = 0 → (G_Lb_recordOf f3 x4 x2 (fun r5 f6 => ((r5 = 0 → (G_Lb_anyRecord_L K k 0 x1 x2 x3 (x4 + 1) f6)) ∧ (¬ r5 = 0 → (G_Lb_recordOf f6 x4 x2 (fun r8 f9 => (G_Lb_anyRecord_L K k 0 x1 x2 r8 (x4 + 1) f9)))))))))))))
def G_Lb_anyRecord (f : ll_S) (a1 : Int32) (a2 : Int32) (K : Int32 → ll_S → Prop) : Prop := (∃ k, G_Lb_anyRecord_L K k 0 a1 a2 0 0 f)
set_option maxHeartbeats 4000000 in
set_option maxRecDepth 100000 in
theorem w_Lb_anyRecord (l : Launch) {p : Program} {e : Env} {s : State} {m : MethodId} {args : Array Value} {below : List Frame} {meth : Method} {c : Code} {D : va_G} {h : Nat → Nat} {cI cZ : ClassId} {f0 : ll_S} {K : Int32 → ll_S → Prop} (cx : ll_C p m c b_Lb_anyRecord 5 s args "LoaderLab$Loaders" D [(cI, .int), (cZ, .boolean)]) (hr : meth.sig.returnType = (some .int)) (hlk : meth.locks = false) (hA : ∀ q, s.heap.size ≤ q → va_A (wd_X h cI cZ f0) s.heap.size q) : ∀ (k : Nat), (∀ (x1 : Int32) (x2 : Int32) (x3 : Int32) (x4 : Int32) (f : ll_S) (H : Heap) (locs : List Loc) (ls : Array Slot), G_Lb_anyRecord_L K k 0 x1 x2 x3 x4 f → ll_X D (wd_X h cI cZ) (va_A (wd_X h cI cZ f0) s.heap.size) s.heap H locs f → lv_has ls 5 [(0, .ref (h 1)), (1, .int x1), (2, .int x2), (3, .int x3), (4, .int x4)] → W p l e (ll_rk 2) s m args below meth c H locs 0 0 (ll_Qi below args s D [(cI, .int), (cZ, .boolean)] (wd_X h cI cZ) f0 K) (F0 m 5 ls [])) := by
  obtain ⟨⟨hx, hb, -, -, -⟩, -⟩ := id cx
  intro k
  induction k with
  | zero => exact fun _ _ _ _ _ _ _ _ hG => hG.elim
  | succ k ih =>
    · intro x1 x2 x3 x4 f H locs ls hG hX hl
      rw [G_Lb_anyRecord_L] at hG
      refine lv_iload hx hb d_Lb_anyRecord_5 (lv_at hl 4 rfl) ?_
      refine lv_iconst (v := 5) hx hb d_Lb_anyRecord_7 (by decide) ?_
      refine lv_icmp_ge (tgt := 44) hx hb d_Lb_anyRecord_8 (by decide) (fun c1 => ?_) (fun c1 => ?_)
      · have hG := hG.1 c1
        refine lv_iload_n hx hb d_Lb_anyRecord_44 rfl (lv_at hl 3 rfl) ?_
        exact ll_iret cx hr hlk hX hG d_Lb_anyRecord_45
      · have hG := hG.2 c1
        refine lv_iload_n hx hb d_Lb_anyRecord_11 rfl (lv_at hl 1 rfl) ?_
        refine lv_iload hx hb d_Lb_anyRecord_12 (lv_at hl 4 rfl) ?_
        refine ll_callsi cx hA hX (c_Lb_holds l D h cI cZ _ _ _ _ hG) (cw_Lb_48 cx.1.2.2.2.2 (ll_hR (by omega) (by decide))) rfl hl.1 rfl (Nat.le_of_ble_eq_true rfl) d_Lb_anyRecord_14 ⟨Nat.zero_le _, Nat.zero_le _⟩ (fun r2 f3 H locs hG hX => ?_)
        refine lv_if_eq (tgt := 38) hx hb d_Lb_anyRecord_17 (by decide) (fun c4 => ?_) (fun c4 => ?_)
        · have hG := hG.1 c4
          refine lv_iinc (v := (x4 + 1)) (lv' := [(4, .int (x4 + 1)), (0, .ref (h 1)), (1, .int x1), (2, .int x2), (3, .int x3)]) hx hb d_Lb_anyRecord_38 hl (k := 4) rfl rfl (by decide) rfl (fun ls hl => ?_)
          refine lv_goto (tgt := 5) hx hb d_Lb_anyRecord_41 (by decide) ?_
          exact ih _ _ _ _ _ _ _ _ hG hX (lv_sub hl [1, 2, 3, 4, 0] rfl)
        · have hG := hG.2 c4
          refine lv_aload_n hx hb d_Lb_anyRecord_20 rfl (lv_at hl 0 rfl) ?_
          refine lv_iload hx hb d_Lb_anyRecord_21 (lv_at hl 4 rfl) ?_
          refine lv_iload_n hx hb d_Lb_anyRecord_23 rfl (lv_at hl 2 rfl) ?_
          refine ll_callvi cx hA hX (c_Lb_recordOf l D h cI cZ _ _ _ _ hG) (cw_Lb_59 cx.1.2.2.2.2 (ll_hR (by omega) (by decide))) (va_recv cx.2 hX.1 (ci := 1) (q0 := 1) rfl rfl) rfl hl.1 rfl (Nat.le_of_ble_eq_true rfl) d_Lb_anyRecord_24 ⟨Nat.zero_le _, Nat.zero_le _⟩ (fun r5 f6 H locs hG hX => ?_)
          refine lv_if_eq (tgt := 38) hx hb d_Lb_anyRecord_27 (by decide) (fun c7 => ?_) (fun c7 => ?_)
          · have hG := hG.1 c7
            refine lv_iinc (v := (x4 + 1)) (lv' := [(4, .int (x4 + 1)), (0, .ref (h 1)), (1, .int x1), (2, .int x2), (3, .int x3)]) hx hb d_Lb_anyRecord_38 hl (k := 4) rfl rfl (by decide) rfl (fun ls hl => ?_)
            refine lv_goto (tgt := 5) hx hb d_Lb_anyRecord_41 (by decide) ?_
            exact ih _ _ _ _ _ _ _ _ hG hX (lv_sub hl [1, 2, 3, 4, 0] rfl)
          · have hG := hG.2 c7
            refine lv_aload_n hx hb d_Lb_anyRecord_30 rfl (lv_at hl 0 rfl) ?_
            refine lv_iload hx hb d_Lb_anyRecord_31 (lv_at hl 4 rfl) ?_
            refine lv_iload_n hx hb d_Lb_anyRecord_33 rfl (lv_at hl 2 rfl) ?_
            refine ll_callvi cx hA hX (c_Lb_recordOf l D h cI cZ _ _ _ _ hG) (cw_Lb_59 cx.1.2.2.2.2 (ll_hR (by omega) (by decide))) (va_recv cx.2 hX.1 (ci := 1) (q0 := 1) rfl rfl) rfl hl.1 rfl (Nat.le_of_ble_eq_true rfl) d_Lb_anyRecord_34 ⟨Nat.zero_le _, Nat.zero_le _⟩ (fun r8 f9 H locs hG hX => ?_)
            refine lv_istore_n (lv' := [(3, .int r8), (0, .ref (h 1)), (1, .int x1), (2, .int x2), (4, .int x4)]) hx hb d_Lb_anyRecord_37 rfl hl (by decide) rfl (fun ls hl => ?_)
            refine lv_iinc (v := (x4 + 1)) (lv' := [(4, .int (x4 + 1)), (3, .int r8), (0, .ref (h 1)), (1, .int x1), (2, .int x2)]) hx hb d_Lb_anyRecord_38 hl (k := 4) rfl rfl (by decide) rfl (fun ls hl => ?_)
            refine lv_goto (tgt := 5) hx hb d_Lb_anyRecord_41 (by decide) ?_
            exact ih _ _ _ _ _ _ _ _ hG hX (lv_sub hl [2, 3, 4, 1, 0] rfl)
set_option maxHeartbeats 4000000 in
set_option maxRecDepth 100000 in
theorem c_Lb_anyRecord (l : Launch) (D : va_G) (h : Nat → Nat) (cI cZ : ClassId) (f : ll_S) (a1 : Int32) (a2 : Int32) (K : Int32 → ll_S → Prop) (hG : G_Lb_anyRecord f a1 a2 K) : ll_Mi l y_Lb_anyRecord (Cond.code y_Lb_anyRecord b_Lb_anyRecord 5 (some .int) :: ll_xt) (ll_rk 2) D [(cI, .int), (cZ, .boolean)] (wd_X h cI cZ) [.ref (h 1), .int a1, .int a2] f K := by
  refine ll_starti (own := "LoaderLab$Loaders") (by decide) rfl (Nat.le_of_ble_eq_true rfl) (fun p e s m below meth c ls cx hr hlk hA hX hl => ?_)
  have hl : lv_has ls 5 [(0, .ref (h 1)), (1, .int a1), (2, .int a2)] := hl
  obtain ⟨⟨hx, hb, -, -, -⟩, -⟩ := id cx
  unfold G_Lb_anyRecord at hG
  refine lv_iconst (v := 0) hx hb d_Lb_anyRecord_0 (by decide) ?_
  refine lv_istore_n (lv' := [(3, .int 0), (0, .ref (h 1)), (1, .int a1), (2, .int a2)]) hx hb d_Lb_anyRecord_1 rfl hl (by decide) rfl (fun ls hl => ?_)
  refine lv_iconst (v := 0) hx hb d_Lb_anyRecord_2 (by decide) ?_
  refine lv_istore (lv' := [(4, .int 0), (3, .int 0), (0, .ref (h 1)), (1, .int a1), (2, .int a2)]) hx hb d_Lb_anyRecord_3 hl (by decide) rfl (fun ls hl => ?_)
  obtain ⟨kf, hG⟩ := hG
  exact (w_Lb_anyRecord l cx hr hlk hA kf) _ _ _ _ _ _ _ _ hG hX (lv_sub hl [2, 3, 4, 1, 0] rfl)
def G_Lb_join_L (K : Int32 → ll_S → Prop) : Nat → Nat → Int32 → Int32 → Int32 → Int32 → Int32 → ll_S → Prop
  | 0, _, _, _, _, _, _, _ => False
  | k + 1, _, x1, x2, x3, x4, x5, f => (((5 : Int32) ≤ x5 → K 1 f) ∧ (¬ (5 : Int32) ≤ x5 → (G_Lb_holds f x4 x5 (fun r11 f12 => ((r11 = 0 → (G_Lb_join_L K k 0 x1 x2 x3 x4 (x5 + 1) f12)) ∧ (¬ r11 = 0 → (G_Lb_cell f12 x5 x3 (fun r14 f15 => (vp_in r14 40 ∧ ∀ f16, f16 = ll_w f15 7 (r14).toNatClampNeg x4 → (G_Lb_join_L K k 0 x1 x2 x3 x4 (x5 + 1) f16))))))))))
def G_Lb_join (f : ll_S) (a1 : Int32) (a2 : Int32) (a3 : Int32) (K : Int32 → ll_S → Prop) : Prop := (G_Lb_cell f a1 a3 (fun r1 f2 => (vp_in r1 40 ∧ (G_Lb_cell f2 a2 a3 (fun r3 f4 => (vp_in r3 40 ∧ (G_Lb_anyRecord f4 ((f2 7 (r1).toNatClampNeg) ||| (f4 7 (r3).toNatClampNeg)) a3 (fun r5 f6 => (G_Lb_differ f6 ((f2 7 (r1).toNatClampNeg) ||| (f4 7 (r3).toNatClampNeg)) a3 r5 (fun r7 f8 => ((r7 = 0 → (∃ k, G_Lb_join_L K k 0 a1 a2 a3 ((f2 7 (r1).toNatClampNeg) ||| (f4 7 (r3).toNatClampNeg)) 0 f8)) ∧ (¬ r7 = 0 → K 0 f8))))))))))))
set_option maxHeartbeats 4000000 in
set_option maxRecDepth 100000 in
theorem w_Lb_join (l : Launch) {p : Program} {e : Env} {s : State} {m : MethodId} {args : Array Value} {below : List Frame} {meth : Method} {c : Code} {D : va_G} {h : Nat → Nat} {cI cZ : ClassId} {f0 : ll_S} {K : Int32 → ll_S → Prop} (cx : ll_C p m c b_Lb_join 6 s args "LoaderLab$Loaders" D [(cI, .int), (cZ, .boolean)]) (hr : meth.sig.returnType = (some .boolean)) (hlk : meth.locks = false) (hA : ∀ q, s.heap.size ≤ q → va_A (wd_X h cI cZ f0) s.heap.size q) : ∀ (k : Nat), (∀ (x1 : Int32) (x2 : Int32) (x3 : Int32) (x4 : Int32) (x5 : Int32) (f : ll_S) (H : Heap) (locs : List Loc) (ls : Array Slot), G_Lb_join_L K k 0 x1 x2 x3 x4 x5 f → ll_X D (wd_X h cI cZ) (va_A (wd_X h cI cZ f0) s.heap.size) s.heap H locs f → lv_has ls 6 [(0, .ref (h 1)), (1, .int x1), (2, .int x2), (3, .int x3), (4, .int x4), (5, .int x5)] → W p l e (ll_rk 3) s m args below meth c H locs 0 0 (ll_Qi below args s D [(cI, .int), (cZ, .boolean)] (wd_X h cI cZ) f0 K) (F0 m 45 ls [])) := by
  obtain ⟨⟨hx, hb, -, -, -⟩, -⟩ := id cx
  intro k
  induction k with
  | zero => exact fun _ _ _ _ _ _ _ _ _ hG => hG.elim
  | succ k ih =>
    · intro x1 x2 x3 x4 x5 f H locs ls hG hX hl
      rw [G_Lb_join_L] at hG
      refine lv_iload hx hb d_Lb_join_45 (lv_at hl 5 rfl) ?_
      refine lv_iconst (v := 5) hx hb d_Lb_join_47 (by decide) ?_
      refine lv_icmp_ge (tgt := 80) hx hb d_Lb_join_48 (by decide) (fun c10 => ?_) (fun c10 => ?_)
      · have hG := hG.1 c10
        refine lv_iconst (v := 1) hx hb d_Lb_join_80 (by decide) ?_
        exact ll_zret cx hr hlk hX (by decide) hG d_Lb_join_81
      · have hG := hG.2 c10
        refine lv_iload hx hb d_Lb_join_51 (lv_at hl 4 rfl) ?_
        refine lv_iload hx hb d_Lb_join_53 (lv_at hl 5 rfl) ?_
        refine ll_callsi cx hA hX (c_Lb_holds l D h cI cZ _ _ _ _ hG) (cw_Lb_48 cx.1.2.2.2.2 (ll_hR (by omega) (by decide))) rfl hl.1 rfl (Nat.le_of_ble_eq_true rfl) d_Lb_join_55 ⟨Nat.zero_le _, Nat.zero_le _⟩ (fun r11 f12 H locs hG hX => ?_)
        refine lv_if_eq (tgt := 74) hx hb d_Lb_join_58 (by decide) (fun c13 => ?_) (fun c13 => ?_)
        · have hG := hG.1 c13
          refine lv_iinc (v := (x5 + 1)) (lv' := [(5, .int (x5 + 1)), (0, .ref (h 1)), (1, .int x1), (2, .int x2), (3, .int x3), (4, .int x4)]) hx hb d_Lb_join_74 hl (k := 5) rfl rfl (by decide) rfl (fun ls hl => ?_)
          refine lv_goto (tgt := 45) hx hb d_Lb_join_77 (by decide) ?_
          exact ih _ _ _ _ _ _ _ _ _ hG hX (lv_sub hl [1, 2, 3, 4, 5, 0] rfl)
        · have hG := hG.2 c13
          refine lv_aload_n hx hb d_Lb_join_61 rfl (lv_at hl 0 rfl) ?_
          refine gx_Lb_peers cx hX d_Lb_join_62 ?_
          refine lv_iload hx hb d_Lb_join_65 (lv_at hl 5 rfl) ?_
          refine lv_iload_n hx hb d_Lb_join_67 rfl (lv_at hl 3 rfl) ?_
          refine ll_callsi cx hA hX (c_Lb_cell l D h cI cZ _ _ _ _ hG) (cw_Lb_44 cx.1.2.2.2.2 (ll_hR (by omega) (by decide))) rfl hl.1 rfl (Nat.le_of_ble_eq_true rfl) d_Lb_join_68 ⟨Nat.zero_le _, Nat.zero_le _⟩ (fun r14 f15 H locs hG hX => ?_)
          refine lv_iload hx hb d_Lb_join_71 (lv_at hl 4 rfl) ?_
          refine sx_7 cx hX hG.1 d_Lb_join_73 (fun f16 ef16 H locs hX => ?_)
          replace hG := hG.2 f16 ef16
          refine lv_iinc (v := (x5 + 1)) (lv' := [(5, .int (x5 + 1)), (0, .ref (h 1)), (1, .int x1), (2, .int x2), (3, .int x3), (4, .int x4)]) hx hb d_Lb_join_74 hl (k := 5) rfl rfl (by decide) rfl (fun ls hl => ?_)
          refine lv_goto (tgt := 45) hx hb d_Lb_join_77 (by decide) ?_
          exact ih _ _ _ _ _ _ _ _ _ hG hX (lv_sub hl [1, 2, 3, 4, 5, 0] rfl)
set_option maxHeartbeats 4000000 in
set_option maxRecDepth 100000 in
theorem c_Lb_join (l : Launch) (D : va_G) (h : Nat → Nat) (cI cZ : ClassId) (f : ll_S) (a1 : Int32) (a2 : Int32) (a3 : Int32) (K : Int32 → ll_S → Prop) (hG : G_Lb_join f a1 a2 a3 K) : ll_Mi l y_Lb_join (Cond.code y_Lb_join b_Lb_join 6 (some .boolean) :: ll_xt) (ll_rk 3) D [(cI, .int), (cZ, .boolean)] (wd_X h cI cZ) [.ref (h 1), .int a1, .int a2, .int a3] f K := by
  refine ll_starti (own := "LoaderLab$Loaders") (by decide) rfl (Nat.le_of_ble_eq_true rfl) (fun p e s m below meth c ls cx hr hlk hA hX hl => ?_)
  have hl : lv_has ls 6 [(0, .ref (h 1)), (1, .int a1), (2, .int a2), (3, .int a3)] := hl
  obtain ⟨⟨hx, hb, -, -, -⟩, -⟩ := id cx
  unfold G_Lb_join at hG
  refine lv_aload_n hx hb d_Lb_join_0 rfl (lv_at hl 0 rfl) ?_
  refine gx_Lb_peers cx hX d_Lb_join_1 ?_
  refine lv_iload_n hx hb d_Lb_join_4 rfl (lv_at hl 1 rfl) ?_
  refine lv_iload_n hx hb d_Lb_join_5 rfl (lv_at hl 3 rfl) ?_
  refine ll_callsi cx hA hX (c_Lb_cell l D h cI cZ _ _ _ _ hG) (cw_Lb_44 cx.1.2.2.2.2 (ll_hR (by omega) (by decide))) rfl hl.1 rfl (Nat.le_of_ble_eq_true rfl) d_Lb_join_6 ⟨Nat.zero_le _, Nat.zero_le _⟩ (fun r1 f2 H locs hG hX => ?_)
  refine lx_7 cx hX hG.1 d_Lb_join_9 ?_
  replace hG := hG.2
  refine lv_aload_n hx hb d_Lb_join_10 rfl (lv_at hl 0 rfl) ?_
  refine gx_Lb_peers cx hX d_Lb_join_11 ?_
  refine lv_iload_n hx hb d_Lb_join_14 rfl (lv_at hl 2 rfl) ?_
  refine lv_iload_n hx hb d_Lb_join_15 rfl (lv_at hl 3 rfl) ?_
  refine ll_callsi cx hA hX (c_Lb_cell l D h cI cZ _ _ _ _ hG) (cw_Lb_44 cx.1.2.2.2.2 (ll_hR (by omega) (by decide))) rfl hl.1 rfl (Nat.le_of_ble_eq_true rfl) d_Lb_join_16 ⟨Nat.zero_le _, Nat.zero_le _⟩ (fun r3 f4 H locs hG hX => ?_)
  refine lx_7 cx hX hG.1 d_Lb_join_19 ?_
  replace hG := hG.2
  refine lv_ior hx hb d_Lb_join_20 ?_
  refine lv_istore (lv' := [(4, .int ((f2 7 (r1).toNatClampNeg) ||| (f4 7 (r3).toNatClampNeg))), (0, .ref (h 1)), (1, .int a1), (2, .int a2), (3, .int a3)]) hx hb d_Lb_join_21 hl (by decide) rfl (fun ls hl => ?_)
  refine lv_aload_n hx hb d_Lb_join_23 rfl (lv_at hl 1 rfl) ?_
  refine lv_iload hx hb d_Lb_join_24 (lv_at hl 0 rfl) ?_
  refine lv_iload_n hx hb d_Lb_join_26 rfl (lv_at hl 4 rfl) ?_
  refine lv_aload_n hx hb d_Lb_join_27 rfl (lv_at hl 1 rfl) ?_
  refine lv_iload hx hb d_Lb_join_28 (lv_at hl 0 rfl) ?_
  refine lv_iload_n hx hb d_Lb_join_30 rfl (lv_at hl 4 rfl) ?_
  refine ll_callvi cx hA hX (c_Lb_anyRecord l D h cI cZ _ _ _ _ hG) (cw_Lb_56 cx.1.2.2.2.2 (ll_hR (by omega) (by decide))) (va_recv cx.2 hX.1 (ci := 1) (q0 := 1) rfl rfl) rfl hl.1 rfl (Nat.le_of_ble_eq_true rfl) d_Lb_join_31 ⟨Nat.zero_le _, Nat.zero_le _⟩ (fun r5 f6 H locs hG hX => ?_)
  refine ll_callvi cx hA hX (c_Lb_differ l D h cI cZ _ _ _ _ _ hG) (cw_Lb_52 cx.1.2.2.2.2 (ll_hR (by omega) (by decide))) (va_recv cx.2 hX.1 (ci := 1) (q0 := 1) rfl rfl) rfl hl.1 rfl (Nat.le_of_ble_eq_true rfl) d_Lb_join_34 ⟨Nat.zero_le _, Nat.zero_le _⟩ (fun r7 f8 H locs hG hX => ?_)
  refine lv_if_eq (tgt := 42) hx hb d_Lb_join_37 (by decide) (fun c9 => ?_) (fun c9 => ?_)
  · have hG := hG.1 c9
    refine lv_iconst (v := 0) hx hb d_Lb_join_42 (by decide) ?_
    refine lv_istore (lv' := [(5, .int 0), (4, .int ((f2 7 (r1).toNatClampNeg) ||| (f4 7 (r3).toNatClampNeg))), (0, .ref (h 1)), (1, .int a1), (2, .int a2), (3, .int a3)]) hx hb d_Lb_join_43 hl (by decide) rfl (fun ls hl => ?_)
    obtain ⟨kf, hG⟩ := hG
    exact (w_Lb_join l cx hr hlk hA kf) _ _ _ _ _ _ _ _ _ hG hX (lv_sub hl [2, 3, 4, 5, 1, 0] rfl)
  · have hG := hG.2 c9
    refine lv_iconst (v := 0) hx hb d_Lb_join_40 (by decide) ?_
    exact ll_zret cx hr hlk hX (by decide) hG d_Lb_join_41
def G_Lb_countRecords_L (K : Int32 → ll_S → Prop) : Nat → Nat → Int32 → Int32 → ll_S → Prop
  | 0, _, _, _, _ => False
  | k + 1, _, x1, x2, f => (((40 : Int32) ≤ x2 → K x1 f) ∧ (¬ (40 : Int32) ≤ x2 → (vp_in x2 40 ∧ (((f 5 (x2).toNatClampNeg) = 0 → (G_Lb_countRecords_L K k 0 (x1 + 0) (x2 + 1) f)) ∧ (¬ (f 5 (x2).toNatClampNeg) = 0 → (G_Lb_countRecords_L K k 0 (x1 + 1) (x2 + 1) f))))))
def G_Lb_countRecords (f : ll_S) (K : Int32 → ll_S → Prop) : Prop := (∃ k, G_Lb_countRecords_L K k 0 0 0 f)
set_option maxHeartbeats 4000000 in
set_option maxRecDepth 100000 in
theorem w_Lb_countRecords (l : Launch) {p : Program} {e : Env} {s : State} {m : MethodId} {args : Array Value} {below : List Frame} {meth : Method} {c : Code} {D : va_G} {h : Nat → Nat} {cI cZ : ClassId} {f0 : ll_S} {K : Int32 → ll_S → Prop} (cx : ll_C p m c b_Lb_countRecords 3 s args "LoaderLab$Loaders" D [(cI, .int), (cZ, .boolean)]) (hr : meth.sig.returnType = (some .int)) (hlk : meth.locks = false) (hA : ∀ q, s.heap.size ≤ q → va_A (wd_X h cI cZ f0) s.heap.size q) : ∀ (k : Nat), (∀ (x1 : Int32) (x2 : Int32) (f : ll_S) (H : Heap) (locs : List Loc) (ls : Array Slot), G_Lb_countRecords_L K k 0 x1 x2 f → ll_X D (wd_X h cI cZ) (va_A (wd_X h cI cZ f0) s.heap.size) s.heap H locs f → lv_has ls 3 [(0, .ref (h 1)), (1, .int x1), (2, .int x2)] → W p l e (ll_rk 0) s m args below meth c H locs 0 0 (ll_Qi below args s D [(cI, .int), (cZ, .boolean)] (wd_X h cI cZ) f0 K) (F0 m 4 ls [])) := by
  obtain ⟨⟨hx, hb, -, -, -⟩, -⟩ := id cx
  intro k
  induction k with
  | zero => exact fun _ _ _ _ _ _ hG => hG.elim
  | succ k ih =>
    · intro x1 x2 f H locs ls hG hX hl
      rw [G_Lb_countRecords_L] at hG
      refine lv_iload_n hx hb d_Lb_countRecords_4 rfl (lv_at hl 2 rfl) ?_
      refine lv_bipush (v := 40) hx hb d_Lb_countRecords_5 (by decide) ?_
      refine lv_icmp_ge (tgt := 33) hx hb d_Lb_countRecords_7 (by decide) (fun c1 => ?_) (fun c1 => ?_)
      · have hG := hG.1 c1
        refine lv_iload_n hx hb d_Lb_countRecords_33 rfl (lv_at hl 1 rfl) ?_
        exact ll_iret cx hr hlk hX hG d_Lb_countRecords_34
      · have hG := hG.2 c1
        refine lv_iload_n hx hb d_Lb_countRecords_10 rfl (lv_at hl 1 rfl) ?_
        refine lv_aload_n hx hb d_Lb_countRecords_11 rfl (lv_at hl 0 rfl) ?_
        refine gx_Lb_records cx hX d_Lb_countRecords_12 ?_
        refine lv_iload_n hx hb d_Lb_countRecords_15 rfl (lv_at hl 2 rfl) ?_
        refine lx_5 cx hX hG.1 d_Lb_countRecords_16 ?_
        replace hG := hG.2
        refine lv_if_eq (tgt := 24) hx hb d_Lb_countRecords_17 (by decide) (fun c2 => ?_) (fun c2 => ?_)
        · have hG := hG.1 c2
          refine lv_iconst (v := 0) hx hb d_Lb_countRecords_24 (by decide) ?_
          refine lv_iadd hx hb d_Lb_countRecords_25 ?_
          refine lv_istore_n (lv' := [(1, .int (x1 + 0)), (0, .ref (h 1)), (2, .int x2)]) hx hb d_Lb_countRecords_26 rfl hl (by decide) rfl (fun ls hl => ?_)
          refine lv_iinc (v := (x2 + 1)) (lv' := [(2, .int (x2 + 1)), (1, .int (x1 + 0)), (0, .ref (h 1))]) hx hb d_Lb_countRecords_27 hl (k := 2) rfl rfl (by decide) rfl (fun ls hl => ?_)
          refine lv_goto (tgt := 4) hx hb d_Lb_countRecords_30 (by decide) ?_
          exact ih _ _ _ _ _ _ hG hX (lv_sub hl [2, 1, 0] rfl)
        · have hG := hG.2 c2
          refine lv_iconst (v := 1) hx hb d_Lb_countRecords_20 (by decide) ?_
          refine lv_goto (tgt := 25) hx hb d_Lb_countRecords_21 (by decide) ?_
          refine lv_iadd hx hb d_Lb_countRecords_25 ?_
          refine lv_istore_n (lv' := [(1, .int (x1 + 1)), (0, .ref (h 1)), (2, .int x2)]) hx hb d_Lb_countRecords_26 rfl hl (by decide) rfl (fun ls hl => ?_)
          refine lv_iinc (v := (x2 + 1)) (lv' := [(2, .int (x2 + 1)), (1, .int (x1 + 1)), (0, .ref (h 1))]) hx hb d_Lb_countRecords_27 hl (k := 2) rfl rfl (by decide) rfl (fun ls hl => ?_)
          refine lv_goto (tgt := 4) hx hb d_Lb_countRecords_30 (by decide) ?_
          exact ih _ _ _ _ _ _ hG hX (lv_sub hl [2, 1, 0] rfl)
set_option maxHeartbeats 4000000 in
set_option maxRecDepth 100000 in
theorem c_Lb_countRecords (l : Launch) (D : va_G) (h : Nat → Nat) (cI cZ : ClassId) (f : ll_S) (K : Int32 → ll_S → Prop) (hG : G_Lb_countRecords f K) : ll_Mi l y_Lb_countRecords (Cond.code y_Lb_countRecords b_Lb_countRecords 3 (some .int) :: ll_xt) (ll_rk 0) D [(cI, .int), (cZ, .boolean)] (wd_X h cI cZ) [.ref (h 1)] f K := by
  refine ll_starti (own := "LoaderLab$Loaders") (by decide) rfl (Nat.le_of_ble_eq_true rfl) (fun p e s m below meth c ls cx hr hlk hA hX hl => ?_)
  have hl : lv_has ls 3 [(0, .ref (h 1))] := hl
  obtain ⟨⟨hx, hb, -, -, -⟩, -⟩ := id cx
  unfold G_Lb_countRecords at hG
  refine lv_iconst (v := 0) hx hb d_Lb_countRecords_0 (by decide) ?_
  refine lv_istore_n (lv' := [(1, .int 0), (0, .ref (h 1))]) hx hb d_Lb_countRecords_1 rfl hl (by decide) rfl (fun ls hl => ?_)
  refine lv_iconst (v := 0) hx hb d_Lb_countRecords_2 (by decide) ?_
  refine lv_istore_n (lv' := [(2, .int 0), (1, .int 0), (0, .ref (h 1))]) hx hb d_Lb_countRecords_3 rfl hl (by decide) rfl (fun ls hl => ?_)
  obtain ⟨kf, hG⟩ := hG
  exact (w_Lb_countRecords l cx hr hlk hA kf) _ _ _ _ _ _ hG hX (lv_sub hl [2, 1, 0] rfl)
def G_Lb_countFiles_L (K : Int32 → ll_S → Prop) : Nat → Nat → Int32 → Int32 → ll_S → Prop
  | 0, _, _, _, _ => False
  | k + 1, _, x1, x2, f => (((40 : Int32) ≤ x2 → K x1 f) ∧ (¬ (40 : Int32) ≤ x2 → (vp_in x2 40 ∧ (((f 1 (x2).toNatClampNeg) = (-1 : Int32) → (G_Lb_countFiles_L K k 0 (x1 + 0) (x2 + 1) f)) ∧ (¬ (f 1 (x2).toNatClampNeg) = (-1 : Int32) → (G_Lb_countFiles_L K k 0 (x1 + 1) (x2 + 1) f))))))
def G_Lb_countFiles (f : ll_S) (K : Int32 → ll_S → Prop) : Prop := (∃ k, G_Lb_countFiles_L K k 0 0 0 f)
set_option maxHeartbeats 4000000 in
set_option maxRecDepth 100000 in
theorem w_Lb_countFiles (l : Launch) {p : Program} {e : Env} {s : State} {m : MethodId} {args : Array Value} {below : List Frame} {meth : Method} {c : Code} {D : va_G} {h : Nat → Nat} {cI cZ : ClassId} {f0 : ll_S} {K : Int32 → ll_S → Prop} (cx : ll_C p m c b_Lb_countFiles 3 s args "LoaderLab$Loaders" D [(cI, .int), (cZ, .boolean)]) (hr : meth.sig.returnType = (some .int)) (hlk : meth.locks = false) (hA : ∀ q, s.heap.size ≤ q → va_A (wd_X h cI cZ f0) s.heap.size q) : ∀ (k : Nat), (∀ (x1 : Int32) (x2 : Int32) (f : ll_S) (H : Heap) (locs : List Loc) (ls : Array Slot), G_Lb_countFiles_L K k 0 x1 x2 f → ll_X D (wd_X h cI cZ) (va_A (wd_X h cI cZ f0) s.heap.size) s.heap H locs f → lv_has ls 3 [(0, .ref (h 1)), (1, .int x1), (2, .int x2)] → W p l e (ll_rk 0) s m args below meth c H locs 0 0 (ll_Qi below args s D [(cI, .int), (cZ, .boolean)] (wd_X h cI cZ) f0 K) (F0 m 4 ls [])) := by
  obtain ⟨⟨hx, hb, -, -, -⟩, -⟩ := id cx
  intro k
  induction k with
  | zero => exact fun _ _ _ _ _ _ hG => hG.elim
  | succ k ih =>
    · intro x1 x2 f H locs ls hG hX hl
      rw [G_Lb_countFiles_L] at hG
      refine lv_iload_n hx hb d_Lb_countFiles_4 rfl (lv_at hl 2 rfl) ?_
      refine lv_bipush (v := 40) hx hb d_Lb_countFiles_5 (by decide) ?_
      refine lv_icmp_ge (tgt := 34) hx hb d_Lb_countFiles_7 (by decide) (fun c1 => ?_) (fun c1 => ?_)
      · have hG := hG.1 c1
        refine lv_iload_n hx hb d_Lb_countFiles_34 rfl (lv_at hl 1 rfl) ?_
        exact ll_iret cx hr hlk hX hG d_Lb_countFiles_35
      · have hG := hG.2 c1
        refine lv_iload_n hx hb d_Lb_countFiles_10 rfl (lv_at hl 1 rfl) ?_
        refine lv_aload_n hx hb d_Lb_countFiles_11 rfl (lv_at hl 0 rfl) ?_
        refine gx_Lb_parts cx hX d_Lb_countFiles_12 ?_
        refine lv_iload_n hx hb d_Lb_countFiles_15 rfl (lv_at hl 2 rfl) ?_
        refine lx_1 cx hX hG.1 d_Lb_countFiles_16 ?_
        replace hG := hG.2
        refine lv_iconst (v := (-1)) hx hb d_Lb_countFiles_17 (by decide) ?_
        refine lv_icmp_eq (tgt := 25) hx hb d_Lb_countFiles_18 (by decide) (fun c2 => ?_) (fun c2 => ?_)
        · have hG := hG.1 c2
          refine lv_iconst (v := 0) hx hb d_Lb_countFiles_25 (by decide) ?_
          refine lv_iadd hx hb d_Lb_countFiles_26 ?_
          refine lv_istore_n (lv' := [(1, .int (x1 + 0)), (0, .ref (h 1)), (2, .int x2)]) hx hb d_Lb_countFiles_27 rfl hl (by decide) rfl (fun ls hl => ?_)
          refine lv_iinc (v := (x2 + 1)) (lv' := [(2, .int (x2 + 1)), (1, .int (x1 + 0)), (0, .ref (h 1))]) hx hb d_Lb_countFiles_28 hl (k := 2) rfl rfl (by decide) rfl (fun ls hl => ?_)
          refine lv_goto (tgt := 4) hx hb d_Lb_countFiles_31 (by decide) ?_
          exact ih _ _ _ _ _ _ hG hX (lv_sub hl [2, 1, 0] rfl)
        · have hG := hG.2 c2
          refine lv_iconst (v := 1) hx hb d_Lb_countFiles_21 (by decide) ?_
          refine lv_goto (tgt := 26) hx hb d_Lb_countFiles_22 (by decide) ?_
          refine lv_iadd hx hb d_Lb_countFiles_26 ?_
          refine lv_istore_n (lv' := [(1, .int (x1 + 1)), (0, .ref (h 1)), (2, .int x2)]) hx hb d_Lb_countFiles_27 rfl hl (by decide) rfl (fun ls hl => ?_)
          refine lv_iinc (v := (x2 + 1)) (lv' := [(2, .int (x2 + 1)), (1, .int (x1 + 1)), (0, .ref (h 1))]) hx hb d_Lb_countFiles_28 hl (k := 2) rfl rfl (by decide) rfl (fun ls hl => ?_)
          refine lv_goto (tgt := 4) hx hb d_Lb_countFiles_31 (by decide) ?_
          exact ih _ _ _ _ _ _ hG hX (lv_sub hl [2, 1, 0] rfl)
set_option maxHeartbeats 4000000 in
set_option maxRecDepth 100000 in
theorem c_Lb_countFiles (l : Launch) (D : va_G) (h : Nat → Nat) (cI cZ : ClassId) (f : ll_S) (K : Int32 → ll_S → Prop) (hG : G_Lb_countFiles f K) : ll_Mi l y_Lb_countFiles (Cond.code y_Lb_countFiles b_Lb_countFiles 3 (some .int) :: ll_xt) (ll_rk 0) D [(cI, .int), (cZ, .boolean)] (wd_X h cI cZ) [.ref (h 1)] f K := by
  refine ll_starti (own := "LoaderLab$Loaders") (by decide) rfl (Nat.le_of_ble_eq_true rfl) (fun p e s m below meth c ls cx hr hlk hA hX hl => ?_)
  have hl : lv_has ls 3 [(0, .ref (h 1))] := hl
  obtain ⟨⟨hx, hb, -, -, -⟩, -⟩ := id cx
  unfold G_Lb_countFiles at hG
  refine lv_iconst (v := 0) hx hb d_Lb_countFiles_0 (by decide) ?_
  refine lv_istore_n (lv' := [(1, .int 0), (0, .ref (h 1))]) hx hb d_Lb_countFiles_1 rfl hl (by decide) rfl (fun ls hl => ?_)
  refine lv_iconst (v := 0) hx hb d_Lb_countFiles_2 (by decide) ?_
  refine lv_istore_n (lv' := [(2, .int 0), (1, .int 0), (0, .ref (h 1))]) hx hb d_Lb_countFiles_3 rfl hl (by decide) rfl (fun ls hl => ?_)
  obtain ⟨kf, hG⟩ := hG
  exact (w_Lb_countFiles l cx hr hlk hA kf) _ _ _ _ _ _ hG hX (lv_sub hl [2, 1, 0] rfl)
def G_Lb_countPeers_L (K : Int32 → ll_S → Prop) : Nat → Nat → Int32 → Int32 → Int32 → ll_S → Prop
  | 0, _, _, _, _, _ => False
  | k + 1, 0, x1, x2, _, f => (((40 : Int32) ≤ x2 → K x1 f) ∧ (¬ (40 : Int32) ≤ x2 → (G_Lb_countPeers_L K k 1 x1 x2 ((x2 / 8) + 1) f)))
  | k + 1, 1, x1, x2, x3, f => (((5 : Int32) ≤ x3 → (G_Lb_countPeers_L K k 0 x1 (x2 + 1) 0 f)) ∧ (¬ (5 : Int32) ≤ x3 → (vp_in x2 40 ∧ (G_Lb_holds f (f 7 (x2).toNatClampNeg) x3 (fun r3 f4 => ((r3 = 0 → (G_Lb_countPeers_L K k 1 (x1 + 0) x2 (x3 + 1) f4)) ∧ (¬ r3 = 0 → (G_Lb_countPeers_L K k 1 (x1 + 1) x2 (x3 + 1) f4))))))))
  | _ + 1, _ + 2, _, _, _, _ => False
def G_Lb_countPeers (f : ll_S) (K : Int32 → ll_S → Prop) : Prop := (∃ k, G_Lb_countPeers_L K k 0 0 0 0 f)
set_option maxHeartbeats 4000000 in
set_option maxRecDepth 100000 in
theorem w_Lb_countPeers (l : Launch) {p : Program} {e : Env} {s : State} {m : MethodId} {args : Array Value} {below : List Frame} {meth : Method} {c : Code} {D : va_G} {h : Nat → Nat} {cI cZ : ClassId} {f0 : ll_S} {K : Int32 → ll_S → Prop} (cx : ll_C p m c b_Lb_countPeers 4 s args "LoaderLab$Loaders" D [(cI, .int), (cZ, .boolean)]) (hr : meth.sig.returnType = (some .int)) (hlk : meth.locks = false) (hA : ∀ q, s.heap.size ≤ q → va_A (wd_X h cI cZ f0) s.heap.size q) : ∀ (k : Nat), (∀ (x1 : Int32) (x2 : Int32) (x3 : Int32) (f : ll_S) (H : Heap) (locs : List Loc) (ls : Array Slot), G_Lb_countPeers_L K k 0 x1 x2 x3 f → ll_X D (wd_X h cI cZ) (va_A (wd_X h cI cZ f0) s.heap.size) s.heap H locs f → lv_has ls 4 [(0, .ref (h 1)), (1, .int x1), (2, .int x2)] → W p l e (ll_rk 1) s m args below meth c H locs 0 0 (ll_Qi below args s D [(cI, .int), (cZ, .boolean)] (wd_X h cI cZ) f0 K) (F0 m 4 ls [])) ∧ (∀ (x1 : Int32) (x2 : Int32) (x3 : Int32) (f : ll_S) (H : Heap) (locs : List Loc) (ls : Array Slot), G_Lb_countPeers_L K k 1 x1 x2 x3 f → ll_X D (wd_X h cI cZ) (va_A (wd_X h cI cZ f0) s.heap.size) s.heap H locs f → lv_has ls 4 [(0, .ref (h 1)), (1, .int x1), (2, .int x2), (3, .int x3)] → W p l e (ll_rk 1) s m args below meth c H locs 0 0 (ll_Qi below args s D [(cI, .int), (cZ, .boolean)] (wd_X h cI cZ) f0 K) (F0 m 17 ls [])) := by
  obtain ⟨⟨hx, hb, -, -, -⟩, -⟩ := id cx
  intro k
  induction k with
  | zero => exact ⟨fun _ _ _ _ _ _ _ hG => hG.elim, fun _ _ _ _ _ _ _ hG => hG.elim⟩
  | succ k ih =>
    refine ⟨?_, ?_⟩
    · intro x1 x2 x3 f H locs ls hG hX hl
      rw [G_Lb_countPeers_L] at hG
      refine lv_iload_n hx hb d_Lb_countPeers_4 rfl (lv_at hl 2 rfl) ?_
      refine lv_bipush (v := 40) hx hb d_Lb_countPeers_5 (by decide) ?_
      refine lv_icmp_ge (tgt := 55) hx hb d_Lb_countPeers_7 (by decide) (fun c1 => ?_) (fun c1 => ?_)
      · have hG := hG.1 c1
        refine lv_iload_n hx hb d_Lb_countPeers_55 rfl (lv_at hl 1 rfl) ?_
        exact ll_iret cx hr hlk hX hG d_Lb_countPeers_56
      · have hG := hG.2 c1
        refine lv_iload_n hx hb d_Lb_countPeers_10 rfl (lv_at hl 2 rfl) ?_
        refine lv_bipush (v := 8) hx hb d_Lb_countPeers_11 (by decide) ?_
        refine lv_idiv hx hb d_Lb_countPeers_13 (by decide) ?_
        refine lv_iconst (v := 1) hx hb d_Lb_countPeers_14 (by decide) ?_
        refine lv_iadd hx hb d_Lb_countPeers_15 ?_
        refine lv_istore_n (lv' := [(3, .int ((x2 / 8) + 1)), (0, .ref (h 1)), (1, .int x1), (2, .int x2)]) hx hb d_Lb_countPeers_16 rfl hl (by decide) rfl (fun ls hl => ?_)
        exact ih.2 _ _ _ _ _ _ _ hG hX (lv_sub hl [1, 2, 3, 0] rfl)
    · intro x1 x2 x3 f H locs ls hG hX hl
      rw [G_Lb_countPeers_L] at hG
      refine lv_iload_n hx hb d_Lb_countPeers_17 rfl (lv_at hl 3 rfl) ?_
      refine lv_iconst (v := 5) hx hb d_Lb_countPeers_18 (by decide) ?_
      refine lv_icmp_ge (tgt := 49) hx hb d_Lb_countPeers_19 (by decide) (fun c2 => ?_) (fun c2 => ?_)
      · have hG := hG.1 c2
        refine lv_iinc (v := (x2 + 1)) (lv' := [(2, .int (x2 + 1)), (0, .ref (h 1)), (1, .int x1), (3, .int x3)]) hx hb d_Lb_countPeers_49 hl (k := 2) rfl rfl (by decide) rfl (fun ls hl => ?_)
        refine lv_goto (tgt := 4) hx hb d_Lb_countPeers_52 (by decide) ?_
        exact ih.1 _ _ _ _ _ _ _ hG hX (lv_sub hl [1, 2, 0] rfl)
      · have hG := hG.2 c2
        refine lv_iload_n hx hb d_Lb_countPeers_22 rfl (lv_at hl 1 rfl) ?_
        refine lv_aload_n hx hb d_Lb_countPeers_23 rfl (lv_at hl 0 rfl) ?_
        refine gx_Lb_peers cx hX d_Lb_countPeers_24 ?_
        refine lv_iload_n hx hb d_Lb_countPeers_27 rfl (lv_at hl 2 rfl) ?_
        refine lx_7 cx hX hG.1 d_Lb_countPeers_28 ?_
        replace hG := hG.2
        refine lv_iload_n hx hb d_Lb_countPeers_29 rfl (lv_at hl 3 rfl) ?_
        refine ll_callsi cx hA hX (c_Lb_holds l D h cI cZ _ _ _ _ hG) (cw_Lb_48 cx.1.2.2.2.2 (ll_hR (by omega) (by decide))) rfl hl.1 rfl (Nat.le_of_ble_eq_true rfl) d_Lb_countPeers_30 ⟨Nat.zero_le _, Nat.zero_le _⟩ (fun r3 f4 H locs hG hX => ?_)
        refine lv_if_eq (tgt := 40) hx hb d_Lb_countPeers_33 (by decide) (fun c5 => ?_) (fun c5 => ?_)
        · have hG := hG.1 c5
          refine lv_iconst (v := 0) hx hb d_Lb_countPeers_40 (by decide) ?_
          refine lv_iadd hx hb d_Lb_countPeers_41 ?_
          refine lv_istore_n (lv' := [(1, .int (x1 + 0)), (0, .ref (h 1)), (2, .int x2), (3, .int x3)]) hx hb d_Lb_countPeers_42 rfl hl (by decide) rfl (fun ls hl => ?_)
          refine lv_iinc (v := (x3 + 1)) (lv' := [(3, .int (x3 + 1)), (1, .int (x1 + 0)), (0, .ref (h 1)), (2, .int x2)]) hx hb d_Lb_countPeers_43 hl (k := 3) rfl rfl (by decide) rfl (fun ls hl => ?_)
          refine lv_goto (tgt := 17) hx hb d_Lb_countPeers_46 (by decide) ?_
          exact ih.2 _ _ _ _ _ _ _ hG hX (lv_sub hl [2, 1, 3, 0] rfl)
        · have hG := hG.2 c5
          refine lv_iconst (v := 1) hx hb d_Lb_countPeers_36 (by decide) ?_
          refine lv_goto (tgt := 41) hx hb d_Lb_countPeers_37 (by decide) ?_
          refine lv_iadd hx hb d_Lb_countPeers_41 ?_
          refine lv_istore_n (lv' := [(1, .int (x1 + 1)), (0, .ref (h 1)), (2, .int x2), (3, .int x3)]) hx hb d_Lb_countPeers_42 rfl hl (by decide) rfl (fun ls hl => ?_)
          refine lv_iinc (v := (x3 + 1)) (lv' := [(3, .int (x3 + 1)), (1, .int (x1 + 1)), (0, .ref (h 1)), (2, .int x2)]) hx hb d_Lb_countPeers_43 hl (k := 3) rfl rfl (by decide) rfl (fun ls hl => ?_)
          refine lv_goto (tgt := 17) hx hb d_Lb_countPeers_46 (by decide) ?_
          exact ih.2 _ _ _ _ _ _ _ hG hX (lv_sub hl [2, 1, 3, 0] rfl)
set_option maxHeartbeats 4000000 in
set_option maxRecDepth 100000 in
theorem c_Lb_countPeers (l : Launch) (D : va_G) (h : Nat → Nat) (cI cZ : ClassId) (f : ll_S) (K : Int32 → ll_S → Prop) (hG : G_Lb_countPeers f K) : ll_Mi l y_Lb_countPeers (Cond.code y_Lb_countPeers b_Lb_countPeers 4 (some .int) :: ll_xt) (ll_rk 1) D [(cI, .int), (cZ, .boolean)] (wd_X h cI cZ) [.ref (h 1)] f K := by
  refine ll_starti (own := "LoaderLab$Loaders") (by decide) rfl (Nat.le_of_ble_eq_true rfl) (fun p e s m below meth c ls cx hr hlk hA hX hl => ?_)
  have hl : lv_has ls 4 [(0, .ref (h 1))] := hl
  obtain ⟨⟨hx, hb, -, -, -⟩, -⟩ := id cx
  unfold G_Lb_countPeers at hG
  refine lv_iconst (v := 0) hx hb d_Lb_countPeers_0 (by decide) ?_
  refine lv_istore_n (lv' := [(1, .int 0), (0, .ref (h 1))]) hx hb d_Lb_countPeers_1 rfl hl (by decide) rfl (fun ls hl => ?_)
  refine lv_iconst (v := 0) hx hb d_Lb_countPeers_2 (by decide) ?_
  refine lv_istore_n (lv' := [(2, .int 0), (1, .int 0), (0, .ref (h 1))]) hx hb d_Lb_countPeers_3 rfl hl (by decide) rfl (fun ls hl => ?_)
  obtain ⟨kf, hG⟩ := hG
  exact (w_Lb_countPeers l cx hr hlk hA kf).1 _ _ _ _ _ _ _ hG hX (lv_sub hl [2, 1, 0] rfl)
