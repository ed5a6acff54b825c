def G_Lc_size (f : ll_S) (K : Int32 → ll_S → Prop) : Prop := K (f 16 0) f
set_option maxHeartbeats 4000000 in
set_option maxRecDepth 100000 in
theorem c_Lc_size (l : Launch) (D : va_G) (h : Nat → Nat) (cI cZ : ClassId) (f : ll_S) (K : Int32 → ll_S → Prop) (hG : G_Lc_size f K) : ll_Mi l y_Lc_size (Cond.code y_Lc_size b_Lc_size 1 (some .int) :: ll_xt) (ll_rk 0) D [(cI, .int), (cZ, .boolean)] (wd_X h cI cZ) [.ref (h 2)] f K := by
  refine ll_starti (own := "LoaderLab$Classes") (by decide) rfl (Nat.le_of_ble_eq_true rfl) (fun p e s m below meth c ls cx hr hlk hA hX hl => ?_)
  have hl : lv_has ls 1 [(0, .ref (h 2))] := hl
  obtain ⟨⟨hx, hb, -, -, -⟩, -⟩ := id cx
  unfold G_Lc_size at hG
  refine lv_aload_n hx hb d_Lc_size_0 rfl (lv_at hl 0 rfl) ?_
  refine gx_Lc_defined cx hX d_Lc_size_1 ?_
  exact ll_iret cx hr hlk hX hG d_Lc_size_4
def G_Lc_has (f : ll_S) (a1 : Int32) (K : Int32 → ll_S → Prop) : Prop := ((a1 < (1 : Int32) → K 0 f) ∧ (¬ a1 < (1 : Int32) → (((f 16 0) < a1 → K 0 f) ∧ (¬ (f 16 0) < a1 → K 1 f))))
set_option maxHeartbeats 4000000 in
set_option maxRecDepth 100000 in
theorem c_Lc_has (l : Launch) (D : va_G) (h : Nat → Nat) (cI cZ : ClassId) (f : ll_S) (a1 : Int32) (K : Int32 → ll_S → Prop) (hG : G_Lc_has f a1 K) : ll_Mi l y_Lc_has (Cond.code y_Lc_has b_Lc_has 2 (some .boolean) :: ll_xt) (ll_rk 0) D [(cI, .int), (cZ, .boolean)] (wd_X h cI cZ) [.ref (h 2), .int a1] f K := by
  refine ll_starti (own := "LoaderLab$Classes") (by decide) rfl (Nat.le_of_ble_eq_true rfl) (fun p e s m below meth c ls cx hr hlk hA hX hl => ?_)
  have hl : lv_has ls 2 [(0, .ref (h 2)), (1, .int a1)] := hl
  obtain ⟨⟨hx, hb, -, -, -⟩, -⟩ := id cx
  unfold G_Lc_has at hG
  refine lv_iload_n hx hb d_Lc_has_0 rfl (lv_at hl 1 rfl) ?_
  refine lv_iconst (v := 1) hx hb d_Lc_has_1 (by decide) ?_
  refine lv_icmp_lt (tgt := 17) hx hb d_Lc_has_2 (by decide) (fun c1 => ?_) (fun c1 => ?_)
  · have hG := hG.1 c1
    refine lv_iconst (v := 0) hx hb d_Lc_has_17 (by decide) ?_
    exact ll_zret cx hr hlk hX (by decide) hG d_Lc_has_18
  · have hG := hG.2 c1
    refine lv_iload_n hx hb d_Lc_has_5 rfl (lv_at hl 1 rfl) ?_
    refine lv_aload_n hx hb d_Lc_has_6 rfl (lv_at hl 0 rfl) ?_
    refine gx_Lc_defined cx hX d_Lc_has_7 ?_
    refine lv_icmp_gt (tgt := 17) hx hb d_Lc_has_10 (by decide) (fun c2 => ?_) (fun c2 => ?_)
    · have hG := hG.1 c2
      refine lv_iconst (v := 0) hx hb d_Lc_has_17 (by decide) ?_
      exact ll_zret cx hr hlk hX (by decide) hG d_Lc_has_18
    · have hG := hG.2 c2
      refine lv_iconst (v := 1) hx hb d_Lc_has_13 (by decide) ?_
      refine lv_goto (tgt := 18) hx hb d_Lc_has_14 (by decide) ?_
      exact ll_zret cx hr hlk hX (by decide) hG d_Lc_has_18
def G_Lc_add (f : ll_S) (a1 : Int32) (a2 : Int32) (a3 : Int32) (a4 : Int32) (a5 : Int32) (K : Int32 → ll_S → Prop) : Prop := (∀ f1, f1 = ll_w f 16 0 ((f 16 0) + 1) → (vp_in (f1 16 0) 31 ∧ ∀ f2, f2 = ll_w f1 8 ((f1 16 0)).toNatClampNeg a1 → (vp_in (f2 16 0) 31 ∧ ∀ f3, f3 = ll_w f2 9 ((f2 16 0)).toNatClampNeg a2 → (vp_in (f3 16 0) 31 ∧ ∀ f4, f4 = ll_w f3 10 ((f3 16 0)).toNatClampNeg a3 → (vp_in (f4 16 0) 31 ∧ ∀ f5, f5 = ll_w f4 11 ((f4 16 0)).toNatClampNeg a4 → (vp_in (f5 16 0) 31 ∧ ∀ f6, f6 = ll_w f5 12 ((f5 16 0)).toNatClampNeg a5 → K (f6 16 0) f6))))))
set_option maxHeartbeats 4000000 in
set_option maxRecDepth 100000 in
theorem c_Lc_add (l : Launch) (D : va_G) (h : Nat → Nat) (cI cZ : ClassId) (f : ll_S) (a1 : Int32) (a2 : Int32) (a3 : Int32) (a4 : Int32) (a5 : Int32) (K : Int32 → ll_S → Prop) (hG : G_Lc_add f a1 a2 a3 a4 a5 K) : ll_Mi l y_Lc_add (Cond.code y_Lc_add b_Lc_add 6 (some .int) :: ll_xt) (ll_rk 0) D [(cI, .int), (cZ, .boolean)] (wd_X h cI cZ) [.ref (h 2), .int a1, .int a2, .int a3, .int a4, .int a5] f K := by
  refine ll_starti (own := "LoaderLab$Classes") (by decide) rfl (Nat.le_of_ble_eq_true rfl) (fun p e s m below meth c ls cx hr hlk hA hX hl => ?_)
  have hl : lv_has ls 6 [(0, .ref (h 2)), (1, .int a1), (2, .int a2), (3, .int a3), (4, .int a4), (5, .int a5)] := hl
  obtain ⟨⟨hx, hb, -, -, -⟩, -⟩ := id cx
  unfold G_Lc_add at hG
  refine lv_aload_n hx hb d_Lc_add_0 rfl (lv_at hl 0 rfl) ?_
  refine lv_dup hx hb d_Lc_add_1 rfl ?_
  refine gx_Lc_defined cx hX d_Lc_add_2 ?_
  refine lv_iconst (v := 1) hx hb d_Lc_add_5 (by decide) ?_
  refine lv_iadd hx hb d_Lc_add_6 ?_
  refine px_Lc_defined cx hX d_Lc_add_7 (fun f1 ef1 H locs hX => ?_)
  replace hG := hG f1 ef1
  refine lv_aload_n hx hb d_Lc_add_10 rfl (lv_at hl 0 rfl) ?_
  refine gx_Lc_names cx hX d_Lc_add_11 ?_
  refine lv_aload_n hx hb d_Lc_add_14 rfl (lv_at hl 0 rfl) ?_
  refine gx_Lc_defined cx hX d_Lc_add_15 ?_
  refine lv_iload_n hx hb d_Lc_add_18 rfl (lv_at hl 1 rfl) ?_
  refine sx_8 cx hX hG.1 d_Lc_add_19 (fun f2 ef2 H locs hX => ?_)
  replace hG := hG.2 f2 ef2
  refine lv_aload_n hx hb d_Lc_add_20 rfl (lv_at hl 0 rfl) ?_
  refine gx_Lc_definers cx hX d_Lc_add_21 ?_
  refine lv_aload_n hx hb d_Lc_add_24 rfl (lv_at hl 0 rfl) ?_
  refine gx_Lc_defined cx hX d_Lc_add_25 ?_
  refine lv_iload_n hx hb d_Lc_add_28 rfl (lv_at hl 2 rfl) ?_
  refine sx_9 cx hX hG.1 d_Lc_add_29 (fun f3 ef3 H locs hX => ?_)
  replace hG := hG.2 f3 ef3
  refine lv_aload_n hx hb d_Lc_add_30 rfl (lv_at hl 0 rfl) ?_
  refine gx_Lc_superclasses cx hX d_Lc_add_31 ?_
  refine lv_aload_n hx hb d_Lc_add_34 rfl (lv_at hl 0 rfl) ?_
  refine gx_Lc_defined cx hX d_Lc_add_35 ?_
  refine lv_iload_n hx hb d_Lc_add_38 rfl (lv_at hl 3 rfl) ?_
  refine sx_10 cx hX hG.1 d_Lc_add_39 (fun f4 ef4 H locs hX => ?_)
  replace hG := hG.2 f4 ef4
  refine lv_aload_n hx hb d_Lc_add_40 rfl (lv_at hl 0 rfl) ?_
  refine gx_Lc_interfaces cx hX d_Lc_add_41 ?_
  refine lv_aload_n hx hb d_Lc_add_44 rfl (lv_at hl 0 rfl) ?_
  refine gx_Lc_defined cx hX d_Lc_add_45 ?_
  refine lv_iload hx hb d_Lc_add_48 (lv_at hl 4 rfl) ?_
  refine sx_11 cx hX hG.1 d_Lc_add_50 (fun f5 ef5 H locs hX => ?_)
  replace hG := hG.2 f5 ef5
  refine lv_aload_n hx hb d_Lc_add_51 rfl (lv_at hl 0 rfl) ?_
  refine gx_Lc_marks cx hX d_Lc_add_52 ?_
  refine lv_aload_n hx hb d_Lc_add_55 rfl (lv_at hl 0 rfl) ?_
  refine gx_Lc_defined cx hX d_Lc_add_56 ?_
  refine lv_iload hx hb d_Lc_add_59 (lv_at hl 5 rfl) ?_
  refine sx_12 cx hX hG.1 d_Lc_add_61 (fun f6 ef6 H locs hX => ?_)
  replace hG := hG.2 f6 ef6
  refine lv_aload_n hx hb d_Lc_add_62 rfl (lv_at hl 0 rfl) ?_
  refine gx_Lc_defined cx hX d_Lc_add_63 ?_
  exact ll_iret cx hr hlk hX hG d_Lc_add_66
def G_Lc_nameOf (f : ll_S) (a1 : Int32) (K : Int32 → ll_S → Prop) : Prop := (vp_in a1 31 ∧ K (f 8 (a1).toNatClampNeg) f)
set_option maxHeartbeats 4000000 in
set_option maxRecDepth 100000 in
theorem c_Lc_nameOf (l : Launch) (D : va_G) (h : Nat → Nat) (cI cZ : ClassId) (f : ll_S) (a1 : Int32) (K : Int32 → ll_S → Prop) (hG : G_Lc_nameOf f a1 K) : ll_Mi l y_Lc_nameOf (Cond.code y_Lc_nameOf b_Lc_nameOf 2 (some .int) :: ll_xt) (ll_rk 0) D [(cI, .int), (cZ, .boolean)] (wd_X h cI cZ) [.ref (h 2), .int a1] f K := by
  refine ll_starti (own := "LoaderLab$Classes") (by decide) rfl (Nat.le_of_ble_eq_true rfl) (fun p e s m below meth c ls cx hr hlk hA hX hl => ?_)
  have hl : lv_has ls 2 [(0, .ref (h 2)), (1, .int a1)] := hl
  obtain ⟨⟨hx, hb, -, -, -⟩, -⟩ := id cx
  unfold G_Lc_nameOf at hG
  refine lv_aload_n hx hb d_Lc_nameOf_0 rfl (lv_at hl 0 rfl) ?_
  refine gx_Lc_names cx hX d_Lc_nameOf_1 ?_
  refine lv_iload_n hx hb d_Lc_nameOf_4 rfl (lv_at hl 1 rfl) ?_
  refine lx_8 cx hX hG.1 d_Lc_nameOf_5 ?_
  replace hG := hG.2
  exact ll_iret cx hr hlk hX hG d_Lc_nameOf_6
def G_Lc_loaderOf (f : ll_S) (a1 : Int32) (K : Int32 → ll_S → Prop) : Prop := (vp_in a1 31 ∧ K (f 9 (a1).toNatClampNeg) f)
set_option maxHeartbeats 4000000 in
set_option maxRecDepth 100000 in
theorem c_Lc_loaderOf (l : Launch) (D : va_G) (h : Nat → Nat) (cI cZ : ClassId) (f : ll_S) (a1 : Int32) (K : Int32 → ll_S → Prop) (hG : G_Lc_loaderOf f a1 K) : ll_Mi l y_Lc_loaderOf (Cond.code y_Lc_loaderOf b_Lc_loaderOf 2 (some .int) :: ll_xt) (ll_rk 0) D [(cI, .int), (cZ, .boolean)] (wd_X h cI cZ) [.ref (h 2), .int a1] f K := by
  refine ll_starti (own := "LoaderLab$Classes") (by decide) rfl (Nat.le_of_ble_eq_true rfl) (fun p e s m below meth c ls cx hr hlk hA hX hl => ?_)
  have hl : lv_has ls 2 [(0, .ref (h 2)), (1, .int a1)] := hl
  obtain ⟨⟨hx, hb, -, -, -⟩, -⟩ := id cx
  unfold G_Lc_loaderOf at hG
  refine lv_aload_n hx hb d_Lc_loaderOf_0 rfl (lv_at hl 0 rfl) ?_
  refine gx_Lc_definers cx hX d_Lc_loaderOf_1 ?_
  refine lv_iload_n hx hb d_Lc_loaderOf_4 rfl (lv_at hl 1 rfl) ?_
  refine lx_9 cx hX hG.1 d_Lc_loaderOf_5 ?_
  replace hG := hG.2
  exact ll_iret cx hr hlk hX hG d_Lc_loaderOf_6
def G_Lc_superclassOf (f : ll_S) (a1 : Int32) (K : Int32 → ll_S → Prop) : Prop := (vp_in a1 31 ∧ K (f 10 (a1).toNatClampNeg) f)
set_option maxHeartbeats 4000000 in
set_option maxRecDepth 100000 in
theorem c_Lc_superclassOf (l : Launch) (D : va_G) (h : Nat → Nat) (cI cZ : ClassId) (f : ll_S) (a1 : Int32) (K : Int32 → ll_S → Prop) (hG : G_Lc_superclassOf f a1 K) : ll_Mi l y_Lc_superclassOf (Cond.code y_Lc_superclassOf b_Lc_superclassOf 2 (some .int) :: ll_xt) (ll_rk 0) D [(cI, .int), (cZ, .boolean)] (wd_X h cI cZ) [.ref (h 2), .int a1] f K := by
  refine ll_starti (own := "LoaderLab$Classes") (by decide) rfl (Nat.le_of_ble_eq_true rfl) (fun p e s m below meth c ls cx hr hlk hA hX hl => ?_)
  have hl : lv_has ls 2 [(0, .ref (h 2)), (1, .int a1)] := hl
  obtain ⟨⟨hx, hb, -, -, -⟩, -⟩ := id cx
  unfold G_Lc_superclassOf at hG
  refine lv_aload_n hx hb d_Lc_superclassOf_0 rfl (lv_at hl 0 rfl) ?_
  refine gx_Lc_superclasses cx hX d_Lc_superclassOf_1 ?_
  refine lv_iload_n hx hb d_Lc_superclassOf_4 rfl (lv_at hl 1 rfl) ?_
  refine lx_10 cx hX hG.1 d_Lc_superclassOf_5 ?_
  replace hG := hG.2
  exact ll_iret cx hr hlk hX hG d_Lc_superclassOf_6
def G_Lc_interfaceOf (f : ll_S) (a1 : Int32) (K : Int32 → ll_S → Prop) : Prop := (vp_in a1 31 ∧ K (f 11 (a1).toNatClampNeg) f)
set_option maxHeartbeats 4000000 in
set_option maxRecDepth 100000 in
theorem c_Lc_interfaceOf (l : Launch) (D : va_G) (h : Nat → Nat) (cI cZ : ClassId) (f : ll_S) (a1 : Int32) (K : Int32 → ll_S → Prop) (hG : G_Lc_interfaceOf f a1 K) : ll_Mi l y_Lc_interfaceOf (Cond.code y_Lc_interfaceOf b_Lc_interfaceOf 2 (some .int) :: ll_xt) (ll_rk 0) D [(cI, .int), (cZ, .boolean)] (wd_X h cI cZ) [.ref (h 2), .int a1] f K := by
  refine ll_starti (own := "LoaderLab$Classes") (by decide) rfl (Nat.le_of_ble_eq_true rfl) (fun p e s m below meth c ls cx hr hlk hA hX hl => ?_)
  have hl : lv_has ls 2 [(0, .ref (h 2)), (1, .int a1)] := hl
  obtain ⟨⟨hx, hb, -, -, -⟩, -⟩ := id cx
  unfold G_Lc_interfaceOf at hG
  refine lv_aload_n hx hb d_Lc_interfaceOf_0 rfl (lv_at hl 0 rfl) ?_
  refine gx_Lc_interfaces cx hX d_Lc_interfaceOf_1 ?_
  refine lv_iload_n hx hb d_Lc_interfaceOf_4 rfl (lv_at hl 1 rfl) ?_
  refine lx_11 cx hX hG.1 d_Lc_interfaceOf_5 ?_
  replace hG := hG.2
  exact ll_iret cx hr hlk hX hG d_Lc_interfaceOf_6
def G_Lc_marksOf (f : ll_S) (a1 : Int32) (K : Int32 → ll_S → Prop) : Prop := (vp_in a1 31 ∧ K (f 12 (a1).toNatClampNeg) f)
set_option maxHeartbeats 4000000 in
set_option maxRecDepth 100000 in
theorem c_Lc_marksOf (l : Launch) (D : va_G) (h : Nat → Nat) (cI cZ : ClassId) (f : ll_S) (a1 : Int32) (K : Int32 → ll_S → Prop) (hG : G_Lc_marksOf f a1 K) : ll_Mi l y_Lc_marksOf (Cond.code y_Lc_marksOf b_Lc_marksOf 2 (some .int) :: ll_xt) (ll_rk 0) D [(cI, .int), (cZ, .boolean)] (wd_X h cI cZ) [.ref (h 2), .int a1] f K := by
  refine ll_starti (own := "LoaderLab$Classes") (by decide) rfl (Nat.le_of_ble_eq_true rfl) (fun p e s m below meth c ls cx hr hlk hA hX hl => ?_)
  have hl : lv_has ls 2 [(0, .ref (h 2)), (1, .int a1)] := hl
  obtain ⟨⟨hx, hb, -, -, -⟩, -⟩ := id cx
  unfold G_Lc_marksOf at hG
  refine lv_aload_n hx hb d_Lc_marksOf_0 rfl (lv_at hl 0 rfl) ?_
  refine gx_Lc_marks cx hX d_Lc_marksOf_1 ?_
  refine lv_iload_n hx hb d_Lc_marksOf_4 rfl (lv_at hl 1 rfl) ?_
  refine lx_12 cx hX hG.1 d_Lc_marksOf_5 ?_
  replace hG := hG.2
  exact ll_iret cx hr hlk hX hG d_Lc_marksOf_6
def G_Lc_leadsTo_L (K : Int32 → ll_S → Prop) : Nat → Nat → Int32 → Int32 → Int32 → Int32 → ll_S → Prop
  | 0, _, _, _, _, _, _ => False
  | k + 1, _, x1, x2, x3, x4, f => ((x4 ≤ x2 → ((((x3 >>> (x2 &&& 31)) &&& 1) = 0 → K 0 f) ∧ (¬ ((x3 >>> (x2 &&& 31)) &&& 1) = 0 → K 1 f))) ∧ (¬ x4 ≤ x2 → ((((x3 >>> (x4 &&& 31)) &&& 1) = 0 → (G_Lc_leadsTo_L K k 0 x1 x2 x3 (x4 + (-1)) f)) ∧ (¬ ((x3 >>> (x4 &&& 31)) &&& 1) = 0 → (vp_in x4 31 ∧ (vp_in x4 31 ∧ (G_Lc_leadsTo_L K k 0 x1 x2 (x3 ||| ((1 <<< ((f 10 (x4).toNatClampNeg) &&& 31)) ||| (1 <<< ((f 11 (x4).toNatClampNeg) &&& 31)))) (x4 + (-1)) f)))))))
def G_Lc_leadsTo (f : ll_S) (a1 : Int32) (a2 : Int32) (K : Int32 → ll_S → Prop) : Prop := (∃ k, G_Lc_leadsTo_L K k 0 a1 a2 (1 <<< (a1 &&& 31)) a1 f)
set_option maxHeartbeats 4000000 in
set_option maxRecDepth 100000 in
theorem w_Lc_leadsTo (l : Launch) {p : Program} {e : Env} {s : State} {m : MethodId} {args : Array Value} {below : List Frame} {meth : Method} {c : Code} {D : va_G} {h : Nat → Nat} {cI cZ : ClassId} {f0 : ll_S} {K : Int32 → ll_S → Prop} (cx : ll_C p m c b_Lc_leadsTo 5 s args "LoaderLab$Classes" D [(cI, .int), (cZ, .boolean)]) (hr : meth.sig.returnType = (some .boolean)) (hlk : meth.locks = false) (hA : ∀ q, s.heap.size ≤ q → va_A (wd_X h cI cZ f0) s.heap.size q) : ∀ (k : Nat), (∀ (x1 : Int32) (x2 : Int32) (x3 : Int32) (x4 : Int32) (f : ll_S) (H : Heap) (locs : List Loc) (ls : Array Slot), G_Lc_leadsTo_L K k 0 x1 x2 x3 x4 f → ll_X D (wd_X h cI cZ) (va_A (wd_X h cI cZ f0) s.heap.size) s.heap H locs f → lv_has ls 5 [(0, .ref (h 2)), (1, .int x1), (2, .int x2), (3, .int x3), (4, .int x4)] → W p l e (ll_rk 0) s m args below meth c H locs 0 0 (ll_Qi below args s D [(cI, .int), (cZ, .boolean)] (wd_X h cI cZ) f0 K) (F0 m 7 ls [])) := by
  obtain ⟨⟨hx, hb, -, -, -⟩, -⟩ := id cx
  intro k
  induction k with
  | zero => exact fun _ _ _ _ _ _ _ _ hG => hG.elim
  | succ k ih =>
    · intro x1 x2 x3 x4 f H locs ls hG hX hl
      rw [G_Lc_leadsTo_L] at hG
      refine lv_iload hx hb d_Lc_leadsTo_7 (lv_at hl 4 rfl) ?_
      refine lv_iload_n hx hb d_Lc_leadsTo_9 rfl (lv_at hl 2 rfl) ?_
      refine lv_icmp_le (tgt := 50) hx hb d_Lc_leadsTo_10 (by decide) (fun c1 => ?_) (fun c1 => ?_)
      · have hG := hG.1 c1
        refine lv_iload_n hx hb d_Lc_leadsTo_50 rfl (lv_at hl 3 rfl) ?_
        refine lv_iload_n hx hb d_Lc_leadsTo_51 rfl (lv_at hl 2 rfl) ?_
        refine lv_ishr hx hb d_Lc_leadsTo_52 ?_
        refine lv_iconst (v := 1) hx hb d_Lc_leadsTo_53 (by decide) ?_
        refine lv_iand hx hb d_Lc_leadsTo_54 ?_
        refine lv_if_eq (tgt := 62) hx hb d_Lc_leadsTo_55 (by decide) (fun c2 => ?_) (fun c2 => ?_)
        · have hG := hG.1 c2
          refine lv_iconst (v := 0) hx hb d_Lc_leadsTo_62 (by decide) ?_
          exact ll_zret cx hr hlk hX (by decide) hG d_Lc_leadsTo_63
        · have hG := hG.2 c2
          refine lv_iconst (v := 1) hx hb d_Lc_leadsTo_58 (by decide) ?_
          refine lv_goto (tgt := 63) hx hb d_Lc_leadsTo_59 (by decide) ?_
          exact ll_zret cx hr hlk hX (by decide) hG d_Lc_leadsTo_63
      · have hG := hG.2 c1
        refine lv_iload_n hx hb d_Lc_leadsTo_13 rfl (lv_at hl 3 rfl) ?_
        refine lv_iload hx hb d_Lc_leadsTo_14 (lv_at hl 4 rfl) ?_
        refine lv_ishr hx hb d_Lc_leadsTo_16 ?_
        refine lv_iconst (v := 1) hx hb d_Lc_leadsTo_17 (by decide) ?_
        refine lv_iand hx hb d_Lc_leadsTo_18 ?_
        refine lv_if_eq (tgt := 44) hx hb d_Lc_leadsTo_19 (by decide) (fun c3 => ?_) (fun c3 => ?_)
        · have hG := hG.1 c3
          refine lv_iinc (v := (x4 + (-1))) (lv' := [(4, .int (x4 + (-1))), (0, .ref (h 2)), (1, .int x1), (2, .int x2), (3, .int x3)]) hx hb d_Lc_leadsTo_44 hl (k := 4) rfl rfl (by decide) rfl (fun ls hl => ?_)
          refine lv_goto (tgt := 7) hx hb d_Lc_leadsTo_47 (by decide) ?_
          exact ih _ _ _ _ _ _ _ _ hG hX (lv_sub hl [1, 2, 3, 4, 0] rfl)
        · have hG := hG.2 c3
          refine lv_iload_n hx hb d_Lc_leadsTo_22 rfl (lv_at hl 3 rfl) ?_
          refine lv_iconst (v := 1) hx hb d_Lc_leadsTo_23 (by decide) ?_
          refine lv_aload_n hx hb d_Lc_leadsTo_24 rfl (lv_at hl 0 rfl) ?_
          refine gx_Lc_superclasses cx hX d_Lc_leadsTo_25 ?_
          refine lv_iload hx hb d_Lc_leadsTo_28 (lv_at hl 4 rfl) ?_
          refine lx_10 cx hX hG.1 d_Lc_leadsTo_30 ?_
          replace hG := hG.2
          refine lv_ishl hx hb d_Lc_leadsTo_31 ?_
          refine lv_iconst (v := 1) hx hb d_Lc_leadsTo_32 (by decide) ?_
          refine lv_aload_n hx hb d_Lc_leadsTo_33 rfl (lv_at hl 0 rfl) ?_
          refine gx_Lc_interfaces cx hX d_Lc_leadsTo_34 ?_
          refine lv_iload hx hb d_Lc_leadsTo_37 (lv_at hl 4 rfl) ?_
          refine lx_11 cx hX hG.1 d_Lc_leadsTo_39 ?_
          replace hG := hG.2
          refine lv_ishl hx hb d_Lc_leadsTo_40 ?_
          refine lv_ior hx hb d_Lc_leadsTo_41 ?_
          refine lv_ior hx hb d_Lc_leadsTo_42 ?_
          refine lv_istore_n (lv' := [(3, .int (x3 ||| ((1 <<< ((f 10 (x4).toNatClampNeg) &&& 31)) ||| (1 <<< ((f 11 (x4).toNatClampNeg) &&& 31))))), (0, .ref (h 2)), (1, .int x1), (2, .int x2), (4, .int x4)]) hx hb d_Lc_leadsTo_43 rfl hl (by decide) rfl (fun ls hl => ?_)
          refine lv_iinc (v := (x4 + (-1))) (lv' := [(4, .int (x4 + (-1))), (3, .int (x3 ||| ((1 <<< ((f 10 (x4).toNatClampNeg) &&& 31)) ||| (1 <<< ((f 11 (x4).toNatClampNeg) &&& 31))))), (0, .ref (h 2)), (1, .int x1), (2, .int x2)]) hx hb d_Lc_leadsTo_44 hl (k := 4) rfl rfl (by decide) rfl (fun ls hl => ?_)
          refine lv_goto (tgt := 7) hx hb d_Lc_leadsTo_47 (by decide) ?_
          exact ih _ _ _ _ _ _ _ _ hG hX (lv_sub hl [2, 3, 4, 1, 0] rfl)
set_option maxHeartbeats 4000000 in
set_option maxRecDepth 100000 in
theorem c_Lc_leadsTo (l : Launch) (D : va_G) (h : Nat → Nat) (cI cZ : ClassId) (f : ll_S) (a1 : Int32) (a2 : Int32) (K : Int32 → ll_S → Prop) (hG : G_Lc_leadsTo f a1 a2 K) : ll_Mi l y_Lc_leadsTo (Cond.code y_Lc_leadsTo b_Lc_leadsTo 5 (some .boolean) :: ll_xt) (ll_rk 0) D [(cI, .int), (cZ, .boolean)] (wd_X h cI cZ) [.ref (h 2), .int a1, .int a2] f K := by
  refine ll_starti (own := "LoaderLab$Classes") (by decide) rfl (Nat.le_of_ble_eq_true rfl) (fun p e s m below meth c ls cx hr hlk hA hX hl => ?_)
  have hl : lv_has ls 5 [(0, .ref (h 2)), (1, .int a1), (2, .int a2)] := hl
  obtain ⟨⟨hx, hb, -, -, -⟩, -⟩ := id cx
  unfold G_Lc_leadsTo at hG
  refine lv_iconst (v := 1) hx hb d_Lc_leadsTo_0 (by decide) ?_
  refine lv_iload_n hx hb d_Lc_leadsTo_1 rfl (lv_at hl 1 rfl) ?_
  refine lv_ishl hx hb d_Lc_leadsTo_2 ?_
  refine lv_istore_n (lv' := [(3, .int (1 <<< (a1 &&& 31))), (0, .ref (h 2)), (1, .int a1), (2, .int a2)]) hx hb d_Lc_leadsTo_3 rfl hl (by decide) rfl (fun ls hl => ?_)
  refine lv_iload_n hx hb d_Lc_leadsTo_4 rfl (lv_at hl 2 rfl) ?_
  refine lv_istore (lv' := [(4, .int a1), (3, .int (1 <<< (a1 &&& 31))), (0, .ref (h 2)), (1, .int a1), (2, .int a2)]) hx hb d_Lc_leadsTo_5 hl (by decide) rfl (fun ls hl => ?_)
  obtain ⟨kf, hG⟩ := hG
  exact (w_Lc_leadsTo l cx hr hlk hA kf) _ _ _ _ _ _ _ _ hG hX (lv_sub hl [2, 3, 4, 1, 0] rfl)
def G_Lc_hasPlace (f : ll_S) (a1 : Int32) (a2 : Int32) (K : Int32 → ll_S → Prop) : Prop := (G_Lc_has f a1 (fun r1 f2 => ((r1 = 0 → K 0 f2) ∧ (¬ r1 = 0 → ((a2 < 0 → K 0 f2) ∧ (¬ a2 < 0 → (((4 : Int32) ≤ a2 → K 0 f2) ∧ (¬ (4 : Int32) ≤ a2 → K 1 f2))))))))
set_option maxHeartbeats 4000000 in
set_option maxRecDepth 100000 in
theorem c_Lc_hasPlace (l : Launch) (D : va_G) (h : Nat → Nat) (cI cZ : ClassId) (f : ll_S) (a1 : Int32) (a2 : Int32) (K : Int32 → ll_S → Prop) (hG : G_Lc_hasPlace f a1 a2 K) : ll_Mi l y_Lc_hasPlace (Cond.code y_Lc_hasPlace b_Lc_hasPlace 3 (some .boolean) :: ll_xt) (ll_rk 1) D [(cI, .int), (cZ, .boolean)] (wd_X h cI cZ) [.ref (h 2), .int a1, .int a2] f K := by
  refine ll_starti (own := "LoaderLab$Classes") (by decide) rfl (Nat.le_of_ble_eq_true rfl) (fun p e s m below meth c ls cx hr hlk hA hX hl => ?_)
  have hl : lv_has ls 3 [(0, .ref (h 2)), (1, .int a1), (2, .int a2)] := hl
  obtain ⟨⟨hx, hb, -, -, -⟩, -⟩ := id cx
  unfold G_Lc_hasPlace at hG
  refine lv_aload_n hx hb d_Lc_hasPlace_0 rfl (lv_at hl 0 rfl) ?_
  refine lv_iload_n hx hb d_Lc_hasPlace_1 rfl (lv_at hl 1 rfl) ?_
  refine ll_callvi cx hA hX (c_Lc_has l D h cI cZ _ _ _ hG) (cw_Lc_40 cx.1.2.2.2.2 (ll_hR (by omega) (by decide))) (va_recv cx.2 hX.1 (ci := 2) (q0 := 2) rfl rfl) rfl hl.1 rfl (Nat.le_of_ble_eq_true rfl) d_Lc_hasPlace_2 ⟨Nat.zero_le _, Nat.zero_le _⟩ (fun r1 f2 H locs hG hX => ?_)
  refine lv_if_eq (tgt := 21) hx hb d_Lc_hasPlace_5 (by decide) (fun c3 => ?_) (fun c3 => ?_)
  · have hG := hG.1 c3
    refine lv_iconst (v := 0) hx hb d_Lc_hasPlace_21 (by decide) ?_
    exact ll_zret cx hr hlk hX (by decide) hG d_Lc_hasPlace_22
  · have hG := hG.2 c3
    refine lv_iload_n hx hb d_Lc_hasPlace_8 rfl (lv_at hl 2 rfl) ?_
    refine lv_if_lt (tgt := 21) hx hb d_Lc_hasPlace_9 (by decide) (fun c4 => ?_) (fun c4 => ?_)
    · have hG := hG.1 c4
      refine lv_iconst (v := 0) hx hb d_Lc_hasPlace_21 (by decide) ?_
      exact ll_zret cx hr hlk hX (by decide) hG d_Lc_hasPlace_22
    · have hG := hG.2 c4
      refine lv_iload_n hx hb d_Lc_hasPlace_12 rfl (lv_at hl 2 rfl) ?_
      refine lv_iconst (v := 4) hx hb d_Lc_hasPlace_13 (by decide) ?_
      refine lv_icmp_ge (tgt := 21) hx hb d_Lc_hasPlace_14 (by decide) (fun c5 => ?_) (fun c5 => ?_)
      · have hG := hG.1 c5
        refine lv_iconst (v := 0) hx hb d_Lc_hasPlace_21 (by decide) ?_
        exact ll_zret cx hr hlk hX (by decide) hG d_Lc_hasPlace_22
      · have hG := hG.2 c5
        refine lv_iconst (v := 1) hx hb d_Lc_hasPlace_17 (by decide) ?_
        refine lv_goto (tgt := 22) hx hb d_Lc_hasPlace_18 (by decide) ?_
        exact ll_zret cx hr hlk hX (by decide) hG d_Lc_hasPlace_22
def G_Lc_place (f : ll_S) (a1 : Int32) (a2 : Int32) (K : Int32 → ll_S → Prop) : Prop := K ((a1 * 4) + a2) f
set_option maxHeartbeats 4000000 in
set_option maxRecDepth 100000 in
theorem c_Lc_place (l : Launch) (D : va_G) (h : Nat → Nat) (cI cZ : ClassId) (f : ll_S) (a1 : Int32) (a2 : Int32) (K : Int32 → ll_S → Prop) (hG : G_Lc_place f a1 a2 K) : ll_Mi l y_Lc_place (Cond.code y_Lc_place b_Lc_place 2 (some .int) :: ll_xt) (ll_rk 0) D [(cI, .int), (cZ, .boolean)] (wd_X h cI cZ) [.int a1, .int a2] f K := by
  refine ll_starti (own := "LoaderLab$Classes") (by decide) rfl (Nat.le_of_ble_eq_true rfl) (fun p e s m below meth c ls cx hr hlk hA hX hl => ?_)
  have hl : lv_has ls 2 [(0, .int a1), (1, .int a2)] := hl
  obtain ⟨⟨hx, hb, -, -, -⟩, -⟩ := id cx
  unfold G_Lc_place at hG
  refine lv_iload_n hx hb d_Lc_place_0 rfl (lv_at hl 0 rfl) ?_
  refine lv_iconst (v := 4) hx hb d_Lc_place_1 (by decide) ?_
  refine lv_imul hx hb d_Lc_place_2 ?_
  refine lv_iload_n hx hb d_Lc_place_3 rfl (lv_at hl 1 rfl) ?_
  refine lv_iadd hx hb d_Lc_place_4 ?_
  exact ll_iret cx hr hlk hX hG d_Lc_place_5
def G_Lc_referredName (f : ll_S) (a1 : Int32) (a2 : Int32) (K : Int32 → ll_S → Prop) : Prop := (G_Lc_place f a1 a2 (fun r1 f2 => (vp_in r1 124 ∧ K (f2 13 (r1).toNatClampNeg) f2)))
set_option maxHeartbeats 4000000 in
set_option maxRecDepth 100000 in
theorem c_Lc_referredName (l : Launch) (D : va_G) (h : Nat → Nat) (cI cZ : ClassId) (f : ll_S) (a1 : Int32) (a2 : Int32) (K : Int32 → ll_S → Prop) (hG : G_Lc_referredName f a1 a2 K) : ll_Mi l y_Lc_referredName (Cond.code y_Lc_referredName b_Lc_referredName 3 (some .int) :: ll_xt) (ll_rk 1) D [(cI, .int), (cZ, .boolean)] (wd_X h cI cZ) [.ref (h 2), .int a1, .int a2] f K := by
  refine ll_starti (own := "LoaderLab$Classes") (by decide) rfl (Nat.le_of_ble_eq_true rfl) (fun p e s m below meth c ls cx hr hlk hA hX hl => ?_)
  have hl : lv_has ls 3 [(0, .ref (h 2)), (1, .int a1), (2, .int a2)] := hl
  obtain ⟨⟨hx, hb, -, -, -⟩, -⟩ := id cx
  unfold G_Lc_referredName at hG
  refine lv_aload_n hx hb d_Lc_referredName_0 rfl (lv_at hl 0 rfl) ?_
  refine gx_Lc_referred cx hX d_Lc_referredName_1 ?_
  refine lv_iload_n hx hb d_Lc_referredName_4 rfl (lv_at hl 1 rfl) ?_
  refine lv_iload_n hx hb d_Lc_referredName_5 rfl (lv_at hl 2 rfl) ?_
  refine ll_callsi cx hA hX (c_Lc_place l D h cI cZ _ _ _ _ hG) (cw_Lc_48 cx.1.2.2.2.2 (ll_hR (by omega) (by decide))) rfl hl.1 rfl (Nat.le_of_ble_eq_true rfl) d_Lc_referredName_6 ⟨Nat.zero_le _, Nat.zero_le _⟩ (fun r1 f2 H locs hG hX => ?_)
  refine lx_13 cx hX hG.1 d_Lc_referredName_9 ?_
  replace hG := hG.2
  exact ll_iret cx hr hlk hX hG d_Lc_referredName_10
def G_Lc_hasReference (f : ll_S) (a1 : Int32) (a2 : Int32) (K : Int32 → ll_S → Prop) : Prop := (G_Lc_referredName f a1 a2 (fun r1 f2 => ((r1 = (8 : Int32) → K 0 f2) ∧ (¬ r1 = (8 : Int32) → K 1 f2))))
set_option maxHeartbeats 4000000 in
set_option maxRecDepth 100000 in
theorem c_Lc_hasReference (l : Launch) (D : va_G) (h : Nat → Nat) (cI cZ : ClassId) (f : ll_S) (a1 : Int32) (a2 : Int32) (K : Int32 → ll_S → Prop) (hG : G_Lc_hasReference f a1 a2 K) : ll_Mi l y_Lc_hasReference (Cond.code y_Lc_hasReference b_Lc_hasReference 3 (some .boolean) :: ll_xt) (ll_rk 2) D [(cI, .int), (cZ, .boolean)] (wd_X h cI cZ) [.ref (h 2), .int a1, .int a2] f K := by
  refine ll_starti (own := "LoaderLab$Classes") (by decide) rfl (Nat.le_of_ble_eq_true rfl) (fun p e s m below meth c ls cx hr hlk hA hX hl => ?_)
  have hl : lv_has ls 3 [(0, .ref (h 2)), (1, .int a1), (2, .int a2)] := hl
  obtain ⟨⟨hx, hb, -, -, -⟩, -⟩ := id cx
  unfold G_Lc_hasReference at hG
  refine lv_aload_n hx hb d_Lc_hasReference_0 rfl (lv_at hl 0 rfl) ?_
  refine lv_iload_n hx hb d_Lc_hasReference_1 rfl (lv_at hl 1 rfl) ?_
  refine lv_iload_n hx hb d_Lc_hasReference_2 rfl (lv_at hl 2 rfl) ?_
  refine ll_callvi cx hA hX (c_Lc_referredName l D h cI cZ _ _ _ _ hG) (cw_Lc_44 cx.1.2.2.2.2 (ll_hR (by omega) (by decide))) (va_recv cx.2 hX.1 (ci := 2) (q0 := 2) rfl rfl) rfl hl.1 rfl (Nat.le_of_ble_eq_true rfl) d_Lc_hasReference_3 ⟨Nat.zero_le _, Nat.zero_le _⟩ (fun r1 f2 H locs hG hX => ?_)
  refine lv_bipush (v := 8) hx hb d_Lc_hasReference_6 (by decide) ?_
  refine lv_icmp_eq (tgt := 15) hx hb d_Lc_hasReference_8 (by decide) (fun c3 => ?_) (fun c3 => ?_)
  · have hG := hG.1 c3
    refine lv_iconst (v := 0) hx hb d_Lc_hasReference_15 (by decide) ?_
    exact ll_zret cx hr hlk hX (by decide) hG d_Lc_hasReference_16
  · have hG := hG.2 c3
    refine lv_iconst (v := 1) hx hb d_Lc_hasReference_11 (by decide) ?_
    refine lv_goto (tgt := 16) hx hb d_Lc_hasReference_12 (by decide) ?_
    exact ll_zret cx hr hlk hX (by decide) hG d_Lc_hasReference_16
def G_Lc_setReference (f : ll_S) (a1 : Int32) (a2 : Int32) (a3 : Int32) (K : ll_S → Prop) : Prop := (G_Lc_place f a1 a2 (fun r1 f2 => (vp_in r1 124 ∧ ∀ f3, f3 = ll_w f2 13 (r1).toNatClampNeg a3 → K f3)))
set_option maxHeartbeats 4000000 in
set_option maxRecDepth 100000 in
theorem c_Lc_setReference (l : Launch) (D : va_G) (h : Nat → Nat) (cI cZ : ClassId) (f : ll_S) (a1 : Int32) (a2 : Int32) (a3 : Int32) (K : ll_S → Prop) (hG : G_Lc_setReference f a1 a2 a3 K) : ll_Mv l y_Lc_setReference (Cond.code y_Lc_setReference b_Lc_setReference 4 none :: ll_xt) (ll_rk 1) D [(cI, .int), (cZ, .boolean)] (wd_X h cI cZ) [.ref (h 2), .int a1, .int a2, .int a3] f K := by
  refine ll_startv (own := "LoaderLab$Classes") (by decide) rfl (Nat.le_of_ble_eq_true rfl) (fun p e s m below meth c ls cx hr hlk hA hX hl => ?_)
  have hl : lv_has ls 4 [(0, .ref (h 2)), (1, .int a1), (2, .int a2), (3, .int a3)] := hl
  obtain ⟨⟨hx, hb, -, -, -⟩, -⟩ := id cx
  unfold G_Lc_setReference at hG
  refine lv_aload_n hx hb d_Lc_setReference_0 rfl (lv_at hl 0 rfl) ?_
  refine gx_Lc_referred cx hX d_Lc_setReference_1 ?_
  refine lv_iload_n hx hb d_Lc_setReference_4 rfl (lv_at hl 1 rfl) ?_
  refine lv_iload_n hx hb d_Lc_setReference_5 rfl (lv_at hl 2 rfl) ?_
  refine ll_callsi cx hA hX (c_Lc_place l D h cI cZ _ _ _ _ hG) (cw_Lc_48 cx.1.2.2.2.2 (ll_hR (by omega) (by decide))) rfl hl.1 rfl (Nat.le_of_ble_eq_true rfl) d_Lc_setReference_6 ⟨Nat.zero_le _, Nat.zero_le _⟩ (fun r1 f2 H locs hG hX => ?_)
  refine lv_iload_n hx hb d_Lc_setReference_9 rfl (lv_at hl 3 rfl) ?_
  refine sx_13 cx hX hG.1 d_Lc_setReference_10 (fun f3 ef3 H locs hX => ?_)
  replace hG := hG.2 f3 ef3
  exact ll_vret cx hr hlk hX hG d_Lc_setReference_11
def G_Lc_keptFor (f : ll_S) (a1 : Int32) (a2 : Int32) (K : Int32 → ll_S → Prop) : Prop := (G_Lc_place f a1 a2 (fun r1 f2 => (vp_in r1 124 ∧ K (f2 14 (r1).toNatClampNeg) f2)))
set_option maxHeartbeats 4000000 in
set_option maxRecDepth 100000 in
theorem c_Lc_keptFor (l : Launch) (D : va_G) (h : Nat → Nat) (cI cZ : ClassId) (f : ll_S) (a1 : Int32) (a2 : Int32) (K : Int32 → ll_S → Prop) (hG : G_Lc_keptFor f a1 a2 K) : ll_Mi l y_Lc_keptFor (Cond.code y_Lc_keptFor b_Lc_keptFor 3 (some .int) :: ll_xt) (ll_rk 1) D [(cI, .int), (cZ, .boolean)] (wd_X h cI cZ) [.ref (h 2), .int a1, .int a2] f K := by
  refine ll_starti (own := "LoaderLab$Classes") (by decide) rfl (Nat.le_of_ble_eq_true rfl) (fun p e s m below meth c ls cx hr hlk hA hX hl => ?_)
  have hl : lv_has ls 3 [(0, .ref (h 2)), (1, .int a1), (2, .int a2)] := hl
  obtain ⟨⟨hx, hb, -, -, -⟩, -⟩ := id cx
  unfold G_Lc_keptFor at hG
  refine lv_aload_n hx hb d_Lc_keptFor_0 rfl (lv_at hl 0 rfl) ?_
  refine gx_Lc_kept cx hX d_Lc_keptFor_1 ?_
  refine lv_iload_n hx hb d_Lc_keptFor_4 rfl (lv_at hl 1 rfl) ?_
  refine lv_iload_n hx hb d_Lc_keptFor_5 rfl (lv_at hl 2 rfl) ?_
  refine ll_callsi cx hA hX (c_Lc_place l D h cI cZ _ _ _ _ hG) (cw_Lc_48 cx.1.2.2.2.2 (ll_hR (by omega) (by decide))) rfl hl.1 rfl (Nat.le_of_ble_eq_true rfl) d_Lc_keptFor_6 ⟨Nat.zero_le _, Nat.zero_le _⟩ (fun r1 f2 H locs hG hX => ?_)
  refine lx_14 cx hX hG.1 d_Lc_keptFor_9 ?_
  replace hG := hG.2
  exact ll_iret cx hr hlk hX hG d_Lc_keptFor_10
def G_Lc_keptCause (f : ll_S) (a1 : Int32) (a2 : Int32) (K : Int32 → ll_S → Prop) : Prop := (G_Lc_place f a1 a2 (fun r1 f2 => (vp_in r1 124 ∧ K (f2 15 (r1).toNatClampNeg) f2)))
set_option maxHeartbeats 4000000 in
set_option maxRecDepth 100000 in
theorem c_Lc_keptCause (l : Launch) (D : va_G) (h : Nat → Nat) (cI cZ : ClassId) (f : ll_S) (a1 : Int32) (a2 : Int32) (K : Int32 → ll_S → Prop) (hG : G_Lc_keptCause f a1 a2 K) : ll_Mi l y_Lc_keptCause (Cond.code y_Lc_keptCause b_Lc_keptCause 3 (some .int) :: ll_xt) (ll_rk 1) D [(cI, .int), (cZ, .boolean)] (wd_X h cI cZ) [.ref (h 2), .int a1, .int a2] f K := by
  refine ll_starti (own := "LoaderLab$Classes") (by decide) rfl (Nat.le_of_ble_eq_true rfl) (fun p e s m below meth c ls cx hr hlk hA hX hl => ?_)
  have hl : lv_has ls 3 [(0, .ref (h 2)), (1, .int a1), (2, .int a2)] := hl
  obtain ⟨⟨hx, hb, -, -, -⟩, -⟩ := id cx
  unfold G_Lc_keptCause at hG
  refine lv_aload_n hx hb d_Lc_keptCause_0 rfl (lv_at hl 0 rfl) ?_
  refine gx_Lc_keptCauses cx hX d_Lc_keptCause_1 ?_
  refine lv_iload_n hx hb d_Lc_keptCause_4 rfl (lv_at hl 1 rfl) ?_
  refine lv_iload_n hx hb d_Lc_keptCause_5 rfl (lv_at hl 2 rfl) ?_
  refine ll_callsi cx hA hX (c_Lc_place l D h cI cZ _ _ _ _ hG) (cw_Lc_48 cx.1.2.2.2.2 (ll_hR (by omega) (by decide))) rfl hl.1 rfl (Nat.le_of_ble_eq_true rfl) d_Lc_keptCause_6 ⟨Nat.zero_le _, Nat.zero_le _⟩ (fun r1 f2 H locs hG hX => ?_)
  refine lx_15 cx hX hG.1 d_Lc_keptCause_9 ?_
  replace hG := hG.2
  exact ll_iret cx hr hlk hX hG d_Lc_keptCause_10
def G_Lc_keep (f : ll_S) (a1 : Int32) (a2 : Int32) (a3 : Int32) (a4 : Int32) (K : ll_S → Prop) : Prop := (G_Lc_place f a1 a2 (fun r1 f2 => (vp_in r1 124 ∧ ∀ f3, f3 = ll_w f2 14 (r1).toNatClampNeg a3 → (G_Lc_place f3 a1 a2 (fun r4 f5 => (vp_in r4 124 ∧ ∀ f6, f6 = ll_w f5 15 (r4).toNatClampNeg a4 → K f6))))))
set_option maxHeartbeats 4000000 in
set_option maxRecDepth 100000 in
theorem c_Lc_keep (l : Launch) (D : va_G) (h : Nat → Nat) (cI cZ : ClassId) (f : ll_S) (a1 : Int32) (a2 : Int32) (a3 : Int32) (a4 : Int32) (K : ll_S → Prop) (hG : G_Lc_keep f a1 a2 a3 a4 K) : ll_Mv l y_Lc_keep (Cond.code y_Lc_keep b_Lc_keep 5 none :: ll_xt) (ll_rk 1) D [(cI, .int), (cZ, .boolean)] (wd_X h cI cZ) [.ref (h 2), .int a1, .int a2, .int a3, .int a4] f K := by
  refine ll_startv (own := "LoaderLab$Classes") (by decide) rfl (Nat.le_of_ble_eq_true rfl) (fun p e s m below meth c ls cx hr hlk hA hX hl => ?_)
  have hl : lv_has ls 5 [(0, .ref (h 2)), (1, .int a1), (2, .int a2), (3, .int a3), (4, .int a4)] := hl
  obtain ⟨⟨hx, hb, -, -, -⟩, -⟩ := id cx
  unfold G_Lc_keep at hG
  refine lv_aload_n hx hb d_Lc_keep_0 rfl (lv_at hl 0 rfl) ?_
  refine gx_Lc_kept cx hX d_Lc_keep_1 ?_
  refine lv_iload_n hx hb d_Lc_keep_4 rfl (lv_at hl 1 rfl) ?_
  refine lv_iload_n hx hb d_Lc_keep_5 rfl (lv_at hl 2 rfl) ?_
  refine ll_callsi cx hA hX (c_Lc_place l D h cI cZ _ _ _ _ hG) (cw_Lc_48 cx.1.2.2.2.2 (ll_hR (by omega) (by decide))) rfl hl.1 rfl (Nat.le_of_ble_eq_true rfl) d_Lc_keep_6 ⟨Nat.zero_le _, Nat.zero_le _⟩ (fun r1 f2 H locs hG hX => ?_)
  refine lv_iload_n hx hb d_Lc_keep_9 rfl (lv_at hl 3 rfl) ?_
  refine sx_14 cx hX hG.1 d_Lc_keep_10 (fun f3 ef3 H locs hX => ?_)
  replace hG := hG.2 f3 ef3
  refine lv_aload_n hx hb d_Lc_keep_11 rfl (lv_at hl 0 rfl) ?_
  refine gx_Lc_keptCauses cx hX d_Lc_keep_12 ?_
  refine lv_iload_n hx hb d_Lc_keep_15 rfl (lv_at hl 1 rfl) ?_
  refine lv_iload_n hx hb d_Lc_keep_16 rfl (lv_at hl 2 rfl) ?_
  refine ll_callsi cx hA hX (c_Lc_place l D h cI cZ _ _ _ _ hG) (cw_Lc_48 cx.1.2.2.2.2 (ll_hR (by omega) (by decide))) rfl hl.1 rfl (Nat.le_of_ble_eq_true rfl) d_Lc_keep_17 ⟨Nat.zero_le _, Nat.zero_le _⟩ (fun r4 f5 H locs hG hX => ?_)
  refine lv_iload hx hb d_Lc_keep_20 (lv_at hl 4 rfl) ?_
  refine sx_15 cx hX hG.1 d_Lc_keep_22 (fun f6 ef6 H locs hX => ?_)
  replace hG := hG.2 f6 ef6
  exact ll_vret cx hr hlk hX hG d_Lc_keep_23
