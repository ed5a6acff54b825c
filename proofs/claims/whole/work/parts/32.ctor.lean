def G_Lb_init_L (K : ll_S → Prop) : Nat → Nat → Int32 → ll_S → Prop
  | 0, _, _, _ => False
  | k + 1, 0, x1, f => (((5 : Int32) ≤ x1 → (G_Lb_init_L K k 1 0 f)) ∧ (¬ (5 : Int32) ≤ x1 → (vp_in x1 5 ∧ ∀ f2, f2 = ll_w f 0 (x1).toNatClampNeg (-1) → (G_Lb_init_L K k 0 (x1 + 1) f2))))
  | k + 1, 1, x1, f => (((40 : Int32) ≤ x1 → K f) ∧ (¬ (40 : Int32) ≤ x1 → (vp_in x1 40 ∧ ∀ f4, f4 = ll_w f 1 (x1).toNatClampNeg (-1) → (vp_in x1 40 ∧ ∀ f5, f5 = ll_w f4 7 (x1).toNatClampNeg (1 <<< ((x1 / 8) &&& 31)) → (G_Lb_init_L K k 1 (x1 + 1) f5)))))
  | _ + 1, _ + 2, _, _ => False
def G_Lb_init (f : ll_S) (K : ll_S → Prop) : Prop := (∃ k, G_Lb_init_L K k 0 0 f)
set_option maxHeartbeats 4000000 in
set_option maxRecDepth 100000 in
theorem w_Lb_init (l : Launch) {p : Program} {e : Env} {R : Room} {s : State} {m : MethodId} {args : Array Value} {below : List Frame} {meth : Method} {c : Code} {cells slots : Nat} {Q : State → Prop} {D : va_G} {h : Nat → Nat} {cI cZ : ClassId} {A : Nat → Prop} {H0 : Heap} {K : ll_S → Prop} (cx : ll_C p m c b_Lb_init 2 s args "LoaderLab$Loaders" D [(cI, .int), (cZ, .boolean)]) (kk : ∀ (f : ll_S) (H : Heap) (locs : List Loc) (ls : Array Slot), K f → ll_X D (wd_B h cI cZ) A H0 H locs f → lv_has ls 2 [(0, .ref (h 1))] → W p l e R s m args below meth c H locs cells slots Q (F0 m 120 ls [])) : ∀ (k : Nat), (∀ (x1 : Int32) (f : ll_S) (H : Heap) (locs : List Loc) (ls : Array Slot), G_Lb_init_L K k 0 x1 f → ll_X D (wd_B h cI cZ) A H0 H locs f → lv_has ls 2 [(0, .ref (h 1)), (1, .int x1)] → W p l e R s m args below meth c H locs cells slots Q (F0 m 69 ls [])) ∧ (∀ (x1 : Int32) (f : ll_S) (H : Heap) (locs : List Loc) (ls : Array Slot), G_Lb_init_L K k 1 x1 f → ll_X D (wd_B h cI cZ) A H0 H locs f → lv_has ls 2 [(0, .ref (h 1)), (1, .int x1)] → W p l e R s m args below meth c H locs cells slots Q (F0 m 89 ls [])) := by
  obtain ⟨⟨hx, hb, -, -, -⟩, -⟩ := id cx
  intro k
  induction k with
  | zero => exact ⟨fun _ _ _ _ _ hG => hG.elim, fun _ _ _ _ _ hG => hG.elim⟩
  | succ k ih =>
    refine ⟨?_, ?_⟩
    · intro x1 f H locs ls hG hX hl
      rw [G_Lb_init_L] at hG
      refine lv_iload_n hx hb d_Lb_init_69 rfl (lv_at hl 1 rfl) ?_
      refine lv_iconst (v := 5) hx hb d_Lb_init_70 (by decide) ?_
      refine lv_icmp_ge (tgt := 87) hx hb d_Lb_init_71 (by decide) (fun c1 => ?_) (fun c1 => ?_)
      · have hG := hG.1 c1
        refine lv_iconst (v := 0) hx hb d_Lb_init_87 (by decide) ?_
        refine lv_istore_n (lv' := [(1, .int 0), (0, .ref (h 1))]) hx hb d_Lb_init_88 rfl hl (by decide) rfl (fun ls hl => ?_)
        exact ih.2 _ _ _ _ _ hG hX (lv_sub hl [1, 0] rfl)
      · have hG := hG.2 c1
        refine lv_aload_n hx hb d_Lb_init_74 rfl (lv_at hl 0 rfl) ?_
        refine gbb_Lb_parents cx hX d_Lb_init_75 ?_
        refine lv_iload_n hx hb d_Lb_init_78 rfl (lv_at hl 1 rfl) ?_
        refine lv_iconst (v := (-1)) hx hb d_Lb_init_79 (by decide) ?_
        refine sbb_0 cx hX hG.1 d_Lb_init_80 (fun f2 ef2 H locs hX => ?_)
        replace hG := hG.2 f2 ef2
        refine lv_iinc (v := (x1 + 1)) (lv' := [(1, .int (x1 + 1)), (0, .ref (h 1))]) hx hb d_Lb_init_81 hl (k := 1) rfl rfl (by decide) rfl (fun ls hl => ?_)
        refine lv_goto (tgt := 69) hx hb d_Lb_init_84 (by decide) ?_
        exact ih.1 _ _ _ _ _ hG hX (lv_sub hl [1, 0] rfl)
    · intro x1 f H locs ls hG hX hl
      rw [G_Lb_init_L] at hG
      refine lv_iload_n hx hb d_Lb_init_89 rfl (lv_at hl 1 rfl) ?_
      refine lv_bipush (v := 40) hx hb d_Lb_init_90 (by decide) ?_
      refine lv_icmp_ge (tgt := 120) hx hb d_Lb_init_92 (by decide) (fun c3 => ?_) (fun c3 => ?_)
      · have hG := hG.1 c3
        exact kk _ _ _ _ hG hX (lv_sub hl [0] rfl)
      · have hG := hG.2 c3
        refine lv_aload_n hx hb d_Lb_init_95 rfl (lv_at hl 0 rfl) ?_
        refine gbb_Lb_parts cx hX d_Lb_init_96 ?_
        refine lv_iload_n hx hb d_Lb_init_99 rfl (lv_at hl 1 rfl) ?_
        refine lv_iconst (v := (-1)) hx hb d_Lb_init_100 (by decide) ?_
        refine sbb_1 cx hX hG.1 d_Lb_init_101 (fun f4 ef4 H locs hX => ?_)
        replace hG := hG.2 f4 ef4
        refine lv_aload_n hx hb d_Lb_init_102 rfl (lv_at hl 0 rfl) ?_
        refine gbb_Lb_peers cx hX d_Lb_init_103 ?_
        refine lv_iload_n hx hb d_Lb_init_106 rfl (lv_at hl 1 rfl) ?_
        refine lv_iconst (v := 1) hx hb d_Lb_init_107 (by decide) ?_
        refine lv_iload_n hx hb d_Lb_init_108 rfl (lv_at hl 1 rfl) ?_
        refine lv_bipush (v := 8) hx hb d_Lb_init_109 (by decide) ?_
        refine lv_idiv hx hb d_Lb_init_111 (by decide) ?_
        refine lv_ishl hx hb d_Lb_init_112 ?_
        refine sbb_7 cx hX hG.1 d_Lb_init_113 (fun f5 ef5 H locs hX => ?_)
        replace hG := hG.2 f5 ef5
        refine lv_iinc (v := (x1 + 1)) (lv' := [(1, .int (x1 + 1)), (0, .ref (h 1))]) hx hb d_Lb_init_114 hl (k := 1) rfl rfl (by decide) rfl (fun ls hl => ?_)
        refine lv_goto (tgt := 89) hx hb d_Lb_init_117 (by decide) ?_
        exact ih.2 _ _ _ _ _ hG hX (lv_sub hl [1, 0] rfl)
set_option maxHeartbeats 8000000 in
set_option maxRecDepth 100000 in
theorem ci_Lb (l : Launch) (D : va_G) (cI cZ : ClassId) (q sz : Nat) (K : ll_S → Prop) (hG : G_Lb_init (fun _ _ => 0) K) : Met l y_Lb_init (Cond.code y_Lb_init b_Lb_init 2 none :: ll_xt) { frames := 1, cells := 8, slots := 285, locals := 12 } (va_Pc [.ref q] (fun U => U.heap.size = sz ∧ va_P D vwCl [(q, .inr (1, [.null, .null, .null, .null, .null, .null, .null, .null]))] U.heap ∧ va_K D vwCl [(cI, .int), (cZ, .boolean)] U ∧ va_D (fun _ => True) [(q, .inr (1, [.null, .null, .null, .null, .null, .null, .null, .null]))])) (va_Qv (fun u : (Nat → Nat) × ll_S => u.1 1 = q ∧ K u.2) (fun u t => va_P D vwCl (wd_B u.1 cI cZ u.2) t.heap ∧ va_K D vwCl [(cI, .int), (cZ, .boolean)] t ∧ va_D (va_A [(q, .inr (1, [.null, .null, .null, .null, .null, .null, .null, .null]))] sz) (wd_B u.1 cI cZ u.2)) (va_A [(q, .inr (1, [.null, .null, .null, .null, .null, .null, .null, .null]))] sz)) 8 285 (va_A [(q, .inr (1, [.null, .null, .null, .null, .null, .null, .null, .null]))] sz) := by
  refine Met.ofW (cc := b_Lb_init) (maxL := 2) (ret := none) (by decide) rfl ?_
  intro p e s m args below meth c s₁ B hml hv
  obtain ⟨rfl, hsz, hP, hK, hD0⟩ := hv
  have hx := B.exec
  have hb := B.bytes
  have hr := B.returns
  have hts0 := atoms_spec (ws := Cond.code y_Lb_init b_Lb_init 2 none :: ll_xt) B.pre
  have hts : ∀ w ∈ ll_xt, w.before _ s = true := fun w h => hts0 w (List.mem_cons_of_mem _ h)
  have hown : s.vm.findClass "LoaderLab$Loaders" = some m.cls := findClass_of_methodNamed B.named
  have hlocks := B.notSynchronized
  have hin : meth.name = "<init>" := (name_of_methodNamed B.named B.method).1
  subst hsz
  have hD := hD0.self (sz := s.heap.size)
  generalize hAe : va_A [(q, .inr (1, [.null, .null, .null, .null, .null, .null, .null, .null]))] s.heap.size = A at hD ⊢
  have hA : ∀ q : Nat, s.heap.size ≤ q → A q := fun q h => by rw [← hAe]; exact Or.inr h
  have hS : va_S A s.heap s.heap [] := va_S.rf
  have hl := lv_entry ([.ref q]) (n := 2) (Nat.le_of_ble_eq_true rfl)
  rw [lg_entry_eq]
  generalize (lg_sl ([.ref q]) ++ List.replicate (2 - (lg_sl ([.ref q])).length) Slot.unset).toArray = ls at hl ⊢
  have hl : lv_has ls 2 [(0, .ref q)] := hl
  refine lv_aload_n hx hb d_Lb_init_0 rfl (lv_at hl 0 rfl) ?_
  refine W.objInit hx hb hown (hts _ ml_Lb_5) (hts _ mobj_i) (hts _ mobj_c) rfl (by rw [hml]; exact hl.1) rfl d_Lb_init_1 (Nat.le_of_ble_eq_true rfl) (Nat.le_of_ble_eq_true rfl) ?_
  refine W.eq (g2 := F0 m 4 ls []) rfl ?_
  refine lv_aload_n hx hb d_Lb_init_4 rfl (lv_at hl 0 rfl) ?_
  refine lv_iconst (v := 5) hx hb d_Lb_init_5 (by decide) ?_
  refine va_newa (atype := .int) (ty := .int) (N' := 5) (a0 := (5, .inl (fun _ => 0))) hx hb (hts _ marr_I) rfl hK hP hD hS hA (fun _ => rfl) (by decide) (by decide) (by decide) (Nat.le_of_ble_eq_true rfl) (Nat.le_of_ble_eq_true rfl) d_Lb_init_6 (fun q3 cA H hK9 hP hD hS => ?_)
  obtain rfl : cI = cA := ll_sameI hK9 (i := 0) (j := 2) rfl rfl
  have hP : va_P D vwCl [(q, .inr (1, [.null, .null, .null, .null, .null, .null, .null, .null])), (q3, .inl (cI, 5, .inl (fun _ => 0)))] H := hP
  have hD : va_D A [(q, .inr (1, [.null, .null, .null, .null, .null, .null, .null, .null])), (q3, .inl (cI, 5, .inl (fun _ => 0)))] := hD
  refine va_putF (D := D) (ci := 1) (v := .ref q3) (ty := .array .int) (C := R_Lb) (T := T_Lb) (N := 8) hx hb hts in_Lb ty_Lb tyok_Lb nm_Lb hown hK hP hD hS 0 rfl rfl 0 (by decide) (hts _ mf_Lb_parents) (fun _ h9 => h9) rfl hin rfl (by decide +kernel) rfl rfl (Nat.le_of_ble_eq_true rfl) d_Lb_init_8 (fun H locs hP hD hS => ?_)
  have hP : va_P D vwCl [(q, .inr (1, [.ref q3, .null, .null, .null, .null, .null, .null, .null])), (q3, .inl (cI, 5, .inl (fun _ => 0)))] H := hP
  have hD : va_D A [(q, .inr (1, [.ref q3, .null, .null, .null, .null, .null, .null, .null])), (q3, .inl (cI, 5, .inl (fun _ => 0)))] := hD
  refine lv_aload_n hx hb d_Lb_init_11 rfl (lv_at hl 0 rfl) ?_
  refine lv_bipush (v := 40) hx hb d_Lb_init_12 (by decide) ?_
  refine va_newa (atype := .int) (ty := .int) (N' := 40) (a0 := (40, .inl (fun _ => 0))) hx hb (hts _ marr_I) rfl hK hP hD hS hA (fun _ => rfl) (by decide) (by decide) (by decide) (Nat.le_of_ble_eq_true rfl) (Nat.le_of_ble_eq_true rfl) d_Lb_init_14 (fun q4 cA H hK9 hP hD hS => ?_)
  obtain rfl : cI = cA := ll_sameI hK9 (i := 0) (j := 2) rfl rfl
  have hP : va_P D vwCl [(q, .inr (1, [.ref q3, .null, .null, .null, .null, .null, .null, .null])), (q3, .inl (cI, 5, .inl (fun _ => 0))), (q4, .inl (cI, 40, .inl (fun _ => 0)))] H := hP
  have hD : va_D A [(q, .inr (1, [.ref q3, .null, .null, .null, .null, .null, .null, .null])), (q3, .inl (cI, 5, .inl (fun _ => 0))), (q4, .inl (cI, 40, .inl (fun _ => 0)))] := hD
  refine va_putF (D := D) (ci := 1) (v := .ref q4) (ty := .array .int) (C := R_Lb) (T := T_Lb) (N := 8) hx hb hts in_Lb ty_Lb tyok_Lb nm_Lb hown hK hP hD hS 0 rfl rfl 1 (by decide) (hts _ mf_Lb_parts) (fun _ h9 => h9) rfl hin rfl (by decide +kernel) rfl rfl (Nat.le_of_ble_eq_true rfl) d_Lb_init_16 (fun H locs hP hD hS => ?_)
  have hP : va_P D vwCl [(q, .inr (1, [.ref q3, .ref q4, .null, .null, .null, .null, .null, .null])), (q3, .inl (cI, 5, .inl (fun _ => 0))), (q4, .inl (cI, 40, .inl (fun _ => 0)))] H := hP
  have hD : va_D A [(q, .inr (1, [.ref q3, .ref q4, .null, .null, .null, .null, .null, .null])), (q3, .inl (cI, 5, .inl (fun _ => 0))), (q4, .inl (cI, 40, .inl (fun _ => 0)))] := hD
  refine lv_aload_n hx hb d_Lb_init_19 rfl (lv_at hl 0 rfl) ?_
  refine lv_bipush (v := 40) hx hb d_Lb_init_20 (by decide) ?_
  refine va_newa (atype := .int) (ty := .int) (N' := 40) (a0 := (40, .inl (fun _ => 0))) hx hb (hts _ marr_I) rfl hK hP hD hS hA (fun _ => rfl) (by decide) (by decide) (by decide) (Nat.le_of_ble_eq_true rfl) (Nat.le_of_ble_eq_true rfl) d_Lb_init_22 (fun q5 cA H hK9 hP hD hS => ?_)
  obtain rfl : cI = cA := ll_sameI hK9 (i := 0) (j := 2) rfl rfl
  have hP : va_P D vwCl [(q, .inr (1, [.ref q3, .ref q4, .null, .null, .null, .null, .null, .null])), (q3, .inl (cI, 5, .inl (fun _ => 0))), (q4, .inl (cI, 40, .inl (fun _ => 0))), (q5, .inl (cI, 40, .inl (fun _ => 0)))] H := hP
  have hD : va_D A [(q, .inr (1, [.ref q3, .ref q4, .null, .null, .null, .null, .null, .null])), (q3, .inl (cI, 5, .inl (fun _ => 0))), (q4, .inl (cI, 40, .inl (fun _ => 0))), (q5, .inl (cI, 40, .inl (fun _ => 0)))] := hD
  refine va_putF (D := D) (ci := 1) (v := .ref q5) (ty := .array .int) (C := R_Lb) (T := T_Lb) (N := 8) hx hb hts in_Lb ty_Lb tyok_Lb nm_Lb hown hK hP hD hS 0 rfl rfl 2 (by decide) (hts _ mf_Lb_marks) (fun _ h9 => h9) rfl hin rfl (by decide +kernel) rfl rfl (Nat.le_of_ble_eq_true rfl) d_Lb_init_24 (fun H locs hP hD hS => ?_)
  have hP : va_P D vwCl [(q, .inr (1, [.ref q3, .ref q4, .ref q5, .null, .null, .null, .null, .null])), (q3, .inl (cI, 5, .inl (fun _ => 0))), (q4, .inl (cI, 40, .inl (fun _ => 0))), (q5, .inl (cI, 40, .inl (fun _ => 0)))] H := hP
  have hD : va_D A [(q, .inr (1, [.ref q3, .ref q4, .ref q5, .null, .null, .null, .null, .null])), (q3, .inl (cI, 5, .inl (fun _ => 0))), (q4, .inl (cI, 40, .inl (fun _ => 0))), (q5, .inl (cI, 40, .inl (fun _ => 0)))] := hD
  refine lv_aload_n hx hb d_Lb_init_27 rfl (lv_at hl 0 rfl) ?_
  refine lv_bipush (v := 40) hx hb d_Lb_init_28 (by decide) ?_
  refine va_newa (atype := .int) (ty := .int) (N' := 40) (a0 := (40, .inl (fun _ => 0))) hx hb (hts _ marr_I) rfl hK hP hD hS hA (fun _ => rfl) (by decide) (by decide) (by decide) (Nat.le_of_ble_eq_true rfl) (Nat.le_of_ble_eq_true rfl) d_Lb_init_30 (fun q6 cA H hK9 hP hD hS => ?_)
  obtain rfl : cI = cA := ll_sameI hK9 (i := 0) (j := 2) rfl rfl
  have hP : va_P D vwCl [(q, .inr (1, [.ref q3, .ref q4, .ref q5, .null, .null, .null, .null, .null])), (q3, .inl (cI, 5, .inl (fun _ => 0))), (q4, .inl (cI, 40, .inl (fun _ => 0))), (q5, .inl (cI, 40, .inl (fun _ => 0))), (q6, .inl (cI, 40, .inl (fun _ => 0)))] H := hP
  have hD : va_D A [(q, .inr (1, [.ref q3, .ref q4, .ref q5, .null, .null, .null, .null, .null])), (q3, .inl (cI, 5, .inl (fun _ => 0))), (q4, .inl (cI, 40, .inl (fun _ => 0))), (q5, .inl (cI, 40, .inl (fun _ => 0))), (q6, .inl (cI, 40, .inl (fun _ => 0)))] := hD
  refine va_putF (D := D) (ci := 1) (v := .ref q6) (ty := .array .int) (C := R_Lb) (T := T_Lb) (N := 8) hx hb hts in_Lb ty_Lb tyok_Lb nm_Lb hown hK hP hD hS 0 rfl rfl 3 (by decide) (hts _ mf_Lb_ways) (fun _ h9 => h9) rfl hin rfl (by decide +kernel) rfl rfl (Nat.le_of_ble_eq_true rfl) d_Lb_init_32 (fun H locs hP hD hS => ?_)
  have hP : va_P D vwCl [(q, .inr (1, [.ref q3, .ref q4, .ref q5, .ref q6, .null, .null, .null, .null])), (q3, .inl (cI, 5, .inl (fun _ => 0))), (q4, .inl (cI, 40, .inl (fun _ => 0))), (q5, .inl (cI, 40, .inl (fun _ => 0))), (q6, .inl (cI, 40, .inl (fun _ => 0)))] H := hP
  have hD : va_D A [(q, .inr (1, [.ref q3, .ref q4, .ref q5, .ref q6, .null, .null, .null, .null])), (q3, .inl (cI, 5, .inl (fun _ => 0))), (q4, .inl (cI, 40, .inl (fun _ => 0))), (q5, .inl (cI, 40, .inl (fun _ => 0))), (q6, .inl (cI, 40, .inl (fun _ => 0)))] := hD
  refine lv_aload_n hx hb d_Lb_init_35 rfl (lv_at hl 0 rfl) ?_
  refine lv_bipush (v := 40) hx hb d_Lb_init_36 (by decide) ?_
  refine va_newa (atype := .int) (ty := .int) (N' := 40) (a0 := (40, .inl (fun _ => 0))) hx hb (hts _ marr_I) rfl hK hP hD hS hA (fun _ => rfl) (by decide) (by decide) (by decide) (Nat.le_of_ble_eq_true rfl) (Nat.le_of_ble_eq_true rfl) d_Lb_init_38 (fun q7 cA H hK9 hP hD hS => ?_)
  obtain rfl : cI = cA := ll_sameI hK9 (i := 0) (j := 2) rfl rfl
  have hP : va_P D vwCl [(q, .inr (1, [.ref q3, .ref q4, .ref q5, .ref q6, .null, .null, .null, .null])), (q3, .inl (cI, 5, .inl (fun _ => 0))), (q4, .inl (cI, 40, .inl (fun _ => 0))), (q5, .inl (cI, 40, .inl (fun _ => 0))), (q6, .inl (cI, 40, .inl (fun _ => 0))), (q7, .inl (cI, 40, .inl (fun _ => 0)))] H := hP
  have hD : va_D A [(q, .inr (1, [.ref q3, .ref q4, .ref q5, .ref q6, .null, .null, .null, .null])), (q3, .inl (cI, 5, .inl (fun _ => 0))), (q4, .inl (cI, 40, .inl (fun _ => 0))), (q5, .inl (cI, 40, .inl (fun _ => 0))), (q6, .inl (cI, 40, .inl (fun _ => 0))), (q7, .inl (cI, 40, .inl (fun _ => 0)))] := hD
  refine va_putF (D := D) (ci := 1) (v := .ref q7) (ty := .array .int) (C := R_Lb) (T := T_Lb) (N := 8) hx hb hts in_Lb ty_Lb tyok_Lb nm_Lb hown hK hP hD hS 0 rfl rfl 4 (by decide) (hts _ mf_Lb_numbers) (fun _ h9 => h9) rfl hin rfl (by decide +kernel) rfl rfl (Nat.le_of_ble_eq_true rfl) d_Lb_init_40 (fun H locs hP hD hS => ?_)
  have hP : va_P D vwCl [(q, .inr (1, [.ref q3, .ref q4, .ref q5, .ref q6, .ref q7, .null, .null, .null])), (q3, .inl (cI, 5, .inl (fun _ => 0))), (q4, .inl (cI, 40, .inl (fun _ => 0))), (q5, .inl (cI, 40, .inl (fun _ => 0))), (q6, .inl (cI, 40, .inl (fun _ => 0))), (q7, .inl (cI, 40, .inl (fun _ => 0)))] H := hP
  have hD : va_D A [(q, .inr (1, [.ref q3, .ref q4, .ref q5, .ref q6, .ref q7, .null, .null, .null])), (q3, .inl (cI, 5, .inl (fun _ => 0))), (q4, .inl (cI, 40, .inl (fun _ => 0))), (q5, .inl (cI, 40, .inl (fun _ => 0))), (q6, .inl (cI, 40, .inl (fun _ => 0))), (q7, .inl (cI, 40, .inl (fun _ => 0)))] := hD
  refine lv_aload_n hx hb d_Lb_init_43 rfl (lv_at hl 0 rfl) ?_
  refine lv_bipush (v := 40) hx hb d_Lb_init_44 (by decide) ?_
  refine va_newa (atype := .int) (ty := .int) (N' := 40) (a0 := (40, .inl (fun _ => 0))) hx hb (hts _ marr_I) rfl hK hP hD hS hA (fun _ => rfl) (by decide) (by decide) (by decide) (Nat.le_of_ble_eq_true rfl) (Nat.le_of_ble_eq_true rfl) d_Lb_init_46 (fun q8 cA H hK9 hP hD hS => ?_)
  obtain rfl : cI = cA := ll_sameI hK9 (i := 0) (j := 2) rfl rfl
  have hP : va_P D vwCl [(q, .inr (1, [.ref q3, .ref q4, .ref q5, .ref q6, .ref q7, .null, .null, .null])), (q3, .inl (cI, 5, .inl (fun _ => 0))), (q4, .inl (cI, 40, .inl (fun _ => 0))), (q5, .inl (cI, 40, .inl (fun _ => 0))), (q6, .inl (cI, 40, .inl (fun _ => 0))), (q7, .inl (cI, 40, .inl (fun _ => 0))), (q8, .inl (cI, 40, .inl (fun _ => 0)))] H := hP
  have hD : va_D A [(q, .inr (1, [.ref q3, .ref q4, .ref q5, .ref q6, .ref q7, .null, .null, .null])), (q3, .inl (cI, 5, .inl (fun _ => 0))), (q4, .inl (cI, 40, .inl (fun _ => 0))), (q5, .inl (cI, 40, .inl (fun _ => 0))), (q6, .inl (cI, 40, .inl (fun _ => 0))), (q7, .inl (cI, 40, .inl (fun _ => 0))), (q8, .inl (cI, 40, .inl (fun _ => 0)))] := hD
  refine va_putF (D := D) (ci := 1) (v := .ref q8) (ty := .array .int) (C := R_Lb) (T := T_Lb) (N := 8) hx hb hts in_Lb ty_Lb tyok_Lb nm_Lb hown hK hP hD hS 0 rfl rfl 5 (by decide) (hts _ mf_Lb_records) (fun _ h9 => h9) rfl hin rfl (by decide +kernel) rfl rfl (Nat.le_of_ble_eq_true rfl) d_Lb_init_48 (fun H locs hP hD hS => ?_)
  have hP : va_P D vwCl [(q, .inr (1, [.ref q3, .ref q4, .ref q5, .ref q6, .ref q7, .ref q8, .null, .null])), (q3, .inl (cI, 5, .inl (fun _ => 0))), (q4, .inl (cI, 40, .inl (fun _ => 0))), (q5, .inl (cI, 40, .inl (fun _ => 0))), (q6, .inl (cI, 40, .inl (fun _ => 0))), (q7, .inl (cI, 40, .inl (fun _ => 0))), (q8, .inl (cI, 40, .inl (fun _ => 0)))] H := hP
  have hD : va_D A [(q, .inr (1, [.ref q3, .ref q4, .ref q5, .ref q6, .ref q7, .ref q8, .null, .null])), (q3, .inl (cI, 5, .inl (fun _ => 0))), (q4, .inl (cI, 40, .inl (fun _ => 0))), (q5, .inl (cI, 40, .inl (fun _ => 0))), (q6, .inl (cI, 40, .inl (fun _ => 0))), (q7, .inl (cI, 40, .inl (fun _ => 0))), (q8, .inl (cI, 40, .inl (fun _ => 0)))] := hD
  refine lv_aload_n hx hb d_Lb_init_51 rfl (lv_at hl 0 rfl) ?_
  refine lv_bipush (v := 40) hx hb d_Lb_init_52 (by decide) ?_
  refine va_newa (atype := .boolean) (ty := .boolean) (N' := 40) (a0 := (40, .inl (fun _ => 0))) hx hb (hts _ marr_Z) rfl hK hP hD hS hA (fun _ => rfl) (by decide) (by decide) (by decide) (Nat.le_of_ble_eq_true rfl) (Nat.le_of_ble_eq_true rfl) d_Lb_init_54 (fun q9 cA H hK9 hP hD hS => ?_)
  obtain rfl : cZ = cA := ll_sameZ hK9 (i := 1) (j := 2) rfl rfl
  have hP : va_P D vwCl [(q, .inr (1, [.ref q3, .ref q4, .ref q5, .ref q6, .ref q7, .ref q8, .null, .null])), (q3, .inl (cI, 5, .inl (fun _ => 0))), (q4, .inl (cI, 40, .inl (fun _ => 0))), (q5, .inl (cI, 40, .inl (fun _ => 0))), (q6, .inl (cI, 40, .inl (fun _ => 0))), (q7, .inl (cI, 40, .inl (fun _ => 0))), (q8, .inl (cI, 40, .inl (fun _ => 0))), (q9, .inl (cZ, 40, .inl (fun _ => 0)))] H := hP
  have hD : va_D A [(q, .inr (1, [.ref q3, .ref q4, .ref q5, .ref q6, .ref q7, .ref q8, .null, .null])), (q3, .inl (cI, 5, .inl (fun _ => 0))), (q4, .inl (cI, 40, .inl (fun _ => 0))), (q5, .inl (cI, 40, .inl (fun _ => 0))), (q6, .inl (cI, 40, .inl (fun _ => 0))), (q7, .inl (cI, 40, .inl (fun _ => 0))), (q8, .inl (cI, 40, .inl (fun _ => 0))), (q9, .inl (cZ, 40, .inl (fun _ => 0)))] := hD
  refine va_putF (D := D) (ci := 1) (v := .ref q9) (ty := .array .boolean) (C := R_Lb) (T := T_Lb) (N := 8) hx hb hts in_Lb ty_Lb tyok_Lb nm_Lb hown hK hP hD hS 0 rfl rfl 6 (by decide) (hts _ mf_Lb_underWay) (fun _ h9 => h9) rfl hin rfl (by decide +kernel) rfl rfl (Nat.le_of_ble_eq_true rfl) d_Lb_init_56 (fun H locs hP hD hS => ?_)
  have hP : va_P D vwCl [(q, .inr (1, [.ref q3, .ref q4, .ref q5, .ref q6, .ref q7, .ref q8, .ref q9, .null])), (q3, .inl (cI, 5, .inl (fun _ => 0))), (q4, .inl (cI, 40, .inl (fun _ => 0))), (q5, .inl (cI, 40, .inl (fun _ => 0))), (q6, .inl (cI, 40, .inl (fun _ => 0))), (q7, .inl (cI, 40, .inl (fun _ => 0))), (q8, .inl (cI, 40, .inl (fun _ => 0))), (q9, .inl (cZ, 40, .inl (fun _ => 0)))] H := hP
  have hD : va_D A [(q, .inr (1, [.ref q3, .ref q4, .ref q5, .ref q6, .ref q7, .ref q8, .ref q9, .null])), (q3, .inl (cI, 5, .inl (fun _ => 0))), (q4, .inl (cI, 40, .inl (fun _ => 0))), (q5, .inl (cI, 40, .inl (fun _ => 0))), (q6, .inl (cI, 40, .inl (fun _ => 0))), (q7, .inl (cI, 40, .inl (fun _ => 0))), (q8, .inl (cI, 40, .inl (fun _ => 0))), (q9, .inl (cZ, 40, .inl (fun _ => 0)))] := hD
  refine lv_aload_n hx hb d_Lb_init_59 rfl (lv_at hl 0 rfl) ?_
  refine lv_bipush (v := 40) hx hb d_Lb_init_60 (by decide) ?_
  refine va_newa (atype := .int) (ty := .int) (N' := 40) (a0 := (40, .inl (fun _ => 0))) hx hb (hts _ marr_I) rfl hK hP hD hS hA (fun _ => rfl) (by decide) (by decide) (by decide) (Nat.le_of_ble_eq_true rfl) (Nat.le_of_ble_eq_true rfl) d_Lb_init_62 (fun q10 cA H hK9 hP hD hS => ?_)
  obtain rfl : cI = cA := ll_sameI hK9 (i := 0) (j := 2) rfl rfl
  have hP : va_P D vwCl [(q, .inr (1, [.ref q3, .ref q4, .ref q5, .ref q6, .ref q7, .ref q8, .ref q9, .null])), (q3, .inl (cI, 5, .inl (fun _ => 0))), (q4, .inl (cI, 40, .inl (fun _ => 0))), (q5, .inl (cI, 40, .inl (fun _ => 0))), (q6, .inl (cI, 40, .inl (fun _ => 0))), (q7, .inl (cI, 40, .inl (fun _ => 0))), (q8, .inl (cI, 40, .inl (fun _ => 0))), (q9, .inl (cZ, 40, .inl (fun _ => 0))), (q10, .inl (cI, 40, .inl (fun _ => 0)))] H := hP
  have hD : va_D A [(q, .inr (1, [.ref q3, .ref q4, .ref q5, .ref q6, .ref q7, .ref q8, .ref q9, .null])), (q3, .inl (cI, 5, .inl (fun _ => 0))), (q4, .inl (cI, 40, .inl (fun _ => 0))), (q5, .inl (cI, 40, .inl (fun _ => 0))), (q6, .inl (cI, 40, .inl (fun _ => 0))), (q7, .inl (cI, 40, .inl (fun _ => 0))), (q8, .inl (cI, 40, .inl (fun _ => 0))), (q9, .inl (cZ, 40, .inl (fun _ => 0))), (q10, .inl (cI, 40, .inl (fun _ => 0)))] := hD
  refine va_putF (D := D) (ci := 1) (v := .ref q10) (ty := .array .int) (C := R_Lb) (T := T_Lb) (N := 8) hx hb hts in_Lb ty_Lb tyok_Lb nm_Lb hown hK hP hD hS 0 rfl rfl 7 (by decide) (hts _ mf_Lb_peers) (fun _ h9 => h9) rfl hin rfl (by decide +kernel) rfl rfl (Nat.le_of_ble_eq_true rfl) d_Lb_init_64 (fun H locs hP hD hS => ?_)
  have hP : va_P D vwCl [(q, .inr (1, [.ref q3, .ref q4, .ref q5, .ref q6, .ref q7, .ref q8, .ref q9, .ref q10])), (q3, .inl (cI, 5, .inl (fun _ => 0))), (q4, .inl (cI, 40, .inl (fun _ => 0))), (q5, .inl (cI, 40, .inl (fun _ => 0))), (q6, .inl (cI, 40, .inl (fun _ => 0))), (q7, .inl (cI, 40, .inl (fun _ => 0))), (q8, .inl (cI, 40, .inl (fun _ => 0))), (q9, .inl (cZ, 40, .inl (fun _ => 0))), (q10, .inl (cI, 40, .inl (fun _ => 0)))] H := hP
  have hD : va_D A [(q, .inr (1, [.ref q3, .ref q4, .ref q5, .ref q6, .ref q7, .ref q8, .ref q9, .ref q10])), (q3, .inl (cI, 5, .inl (fun _ => 0))), (q4, .inl (cI, 40, .inl (fun _ => 0))), (q5, .inl (cI, 40, .inl (fun _ => 0))), (q6, .inl (cI, 40, .inl (fun _ => 0))), (q7, .inl (cI, 40, .inl (fun _ => 0))), (q8, .inl (cI, 40, .inl (fun _ => 0))), (q9, .inl (cZ, 40, .inl (fun _ => 0))), (q10, .inl (cI, 40, .inl (fun _ => 0)))] := hD
  refine W.widen (k := 8) (n := 285) (by decide) (by decide) ?_
  have hX : ll_X D (wd_B (ll_ad [0, q, 0, q3, q4, q5, q6, q7, q8, q9, q10]) cI cZ) A s.heap H locs (fun _ _ => 0) := ⟨hP, hD, hS⟩
  have cx : ll_C p m c b_Lb_init 2 s _ "LoaderLab$Loaders" D [(cI, .int), (cZ, .boolean)] := ⟨⟨hx, hb, hml, hown, hts⟩, hK⟩
  have kk : ∀ (f : ll_S) (H : Heap) (locs : List Loc) (ls : Array Slot), K f → ll_X D (wd_B (ll_ad [0, q, 0, q3, q4, q5, q6, q7, q8, q9, q10]) cI cZ) A s.heap H locs f → lv_has ls 2 [(0, .ref ((ll_ad [0, q, 0, q3, q4, q5, q6, q7, q8, q9, q10]) 1))] → W p l e { frames := 1, cells := 8, slots := 285, locals := 12 } s m #[Value.ref q] below meth c H locs 8 285 (MQ below (va_Qv (fun u : (Nat → Nat) × ll_S => u.1 1 = q ∧ K u.2) (fun u t => va_P D vwCl (wd_B u.1 cI cZ u.2) t.heap ∧ va_K D vwCl [(cI, .int), (cZ, .boolean)] t ∧ va_D A (wd_B u.1 cI cZ u.2)) A) #[Value.ref q] s 8 285 A) (F0 m 120 ls []) := fun f H locs ls hKf hX hl => W.vret hx hb hr (fun t ht hW => ⟨⟨(ll_ad [0, q, 0, q3, q4, q5, q6, q7, q8, q9, q10], f), rfl, ⟨rfl, hKf⟩, by rw [ht]; exact hX.1, va_K.moved hW.alike hK, hX.2.1⟩, hX.2.2.F ht⟩) hX.2.2.2.2 d_Lb_init_120
  have hl : lv_has ls 2 [(0, .ref ((ll_ad [0, q, 0, q3, q4, q5, q6, q7, q8, q9, q10]) 1))] := hl
  unfold G_Lb_init at hG
  refine lv_iconst (v := 0) hx hb d_Lb_init_67 (by decide) ?_
  refine lv_istore_n (lv' := [(1, .int 0), (0, .ref (ll_ad [0, q, 0, q3, q4, q5, q6, q7, q8, q9, q10] 1))]) hx hb d_Lb_init_68 rfl hl (by decide) rfl (fun ls hl => ?_)
  obtain ⟨kf, hG⟩ := hG
  exact (w_Lb_init l cx kk kf).1 _ _ _ _ _ hG hX (lv_sub hl [1, 0] rfl)
def G_Lc_init_L (K : ll_S → Prop) : Nat → Nat → Int32 → ll_S → Prop
  | 0, _, _, _ => False
  | k + 1, _, x1, f => (((124 : Int32) ≤ x1 → K f) ∧ (¬ (124 : Int32) ≤ x1 → (vp_in x1 124 ∧ ∀ f2, f2 = ll_w f 13 (x1).toNatClampNeg 8 → (G_Lc_init_L K k 0 (x1 + 1) f2))))
def G_Lc_init (f : ll_S) (K : ll_S → Prop) : Prop := (∃ k, G_Lc_init_L K k 0 0 f)
set_option maxHeartbeats 4000000 in
set_option maxRecDepth 100000 in
theorem w_Lc_init (l : Launch) {p : Program} {e : Env} {R : Room} {s : State} {m : MethodId} {args : Array Value} {below : List Frame} {meth : Method} {c : Code} {cells slots : Nat} {Q : State → Prop} {D : va_G} {h : Nat → Nat} {cI cZ : ClassId} {A : Nat → Prop} {H0 : Heap} {K : ll_S → Prop} (cx : ll_C p m c b_Lc_init 2 s args "LoaderLab$Classes" D [(cI, .int), (cZ, .boolean)]) (kk : ∀ (f : ll_S) (H : Heap) (locs : List Loc) (ls : Array Slot), K f → ll_X D (wd_C h cI cZ) A H0 H locs f → lv_has ls 2 [(0, .ref (h 2))] → W p l e R s m args below meth c H locs cells slots Q (F0 m 95 ls [])) : ∀ (k : Nat), (∀ (x1 : Int32) (f : ll_S) (H : Heap) (locs : List Loc) (ls : Array Slot), G_Lc_init_L K k 0 x1 f → ll_X D (wd_C h cI cZ) A H0 H locs f → lv_has ls 2 [(0, .ref (h 2)), (1, .int x1)] → W p l e R s m args below meth c H locs cells slots Q (F0 m 75 ls [])) := by
  obtain ⟨⟨hx, hb, -, -, -⟩, -⟩ := id cx
  intro k
  induction k with
  | zero => exact fun _ _ _ _ _ hG => hG.elim
  | succ k ih =>
    · intro x1 f H locs ls hG hX hl
      rw [G_Lc_init_L] at hG
      refine lv_iload_n hx hb d_Lc_init_75 rfl (lv_at hl 1 rfl) ?_
      refine lv_bipush (v := 124) hx hb d_Lc_init_76 (by decide) ?_
      refine lv_icmp_ge (tgt := 95) hx hb d_Lc_init_78 (by decide) (fun c1 => ?_) (fun c1 => ?_)
      · have hG := hG.1 c1
        exact kk _ _ _ _ hG hX (lv_sub hl [0] rfl)
      · have hG := hG.2 c1
        refine lv_aload_n hx hb d_Lc_init_81 rfl (lv_at hl 0 rfl) ?_
        refine gcc_Lc_referred cx hX d_Lc_init_82 ?_
        refine lv_iload_n hx hb d_Lc_init_85 rfl (lv_at hl 1 rfl) ?_
        refine lv_bipush (v := 8) hx hb d_Lc_init_86 (by decide) ?_
        refine scc_13 cx hX hG.1 d_Lc_init_88 (fun f2 ef2 H locs hX => ?_)
        replace hG := hG.2 f2 ef2
        refine lv_iinc (v := (x1 + 1)) (lv' := [(1, .int (x1 + 1)), (0, .ref (h 2))]) hx hb d_Lc_init_89 hl (k := 1) rfl rfl (by decide) rfl (fun ls hl => ?_)
        refine lv_goto (tgt := 75) hx hb d_Lc_init_92 (by decide) ?_
        exact ih _ _ _ _ _ hG hX (lv_sub hl [1, 0] rfl)
set_option maxHeartbeats 8000000 in
set_option maxRecDepth 100000 in
theorem ci_Lc (l : Launch) (D : va_G) (cI cZ : ClassId) (q sz : Nat) (K : ll_S → Prop) (hG : G_Lc_init (fun _ _ => 0) K) : Met l y_Lc_init (Cond.code y_Lc_init b_Lc_init 2 none :: ll_xt) { frames := 1, cells := 8, slots := 527, locals := 12 } (va_Pc [.ref q] (fun U => U.heap.size = sz ∧ va_P D vwCl [(q, .inr (2, [.int 0, .null, .null, .null, .null, .null, .null, .null, .null]))] U.heap ∧ va_K D vwCl [(cI, .int), (cZ, .boolean)] U ∧ va_D (fun _ => True) [(q, .inr (2, [.int 0, .null, .null, .null, .null, .null, .null, .null, .null]))])) (va_Qv (fun u : (Nat → Nat) × ll_S => u.1 2 = q ∧ K u.2) (fun u t => va_P D vwCl (wd_C u.1 cI cZ u.2) t.heap ∧ va_K D vwCl [(cI, .int), (cZ, .boolean)] t ∧ va_D (va_A [(q, .inr (2, [.int 0, .null, .null, .null, .null, .null, .null, .null, .null]))] sz) (wd_C u.1 cI cZ u.2)) (va_A [(q, .inr (2, [.int 0, .null, .null, .null, .null, .null, .null, .null, .null]))] sz)) 8 527 (va_A [(q, .inr (2, [.int 0, .null, .null, .null, .null, .null, .null, .null, .null]))] sz) := by
  refine Met.ofW (cc := b_Lc_init) (maxL := 2) (ret := none) (by decide) rfl ?_
  intro p e s m args below meth c s₁ B hml hv
  obtain ⟨rfl, hsz, hP, hK, hD0⟩ := hv
  have hx := B.exec
  have hb := B.bytes
  have hr := B.returns
  have hts0 := atoms_spec (ws := Cond.code y_Lc_init b_Lc_init 2 none :: ll_xt) B.pre
  have hts : ∀ w ∈ ll_xt, w.before _ s = true := fun w h => hts0 w (List.mem_cons_of_mem _ h)
  have hown : s.vm.findClass "LoaderLab$Classes" = some m.cls := findClass_of_methodNamed B.named
  have hlocks := B.notSynchronized
  have hin : meth.name = "<init>" := (name_of_methodNamed B.named B.method).1
  subst hsz
  have hD := hD0.self (sz := s.heap.size)
  generalize hAe : va_A [(q, .inr (2, [.int 0, .null, .null, .null, .null, .null, .null, .null, .null]))] s.heap.size = A at hD ⊢
  have hA : ∀ q : Nat, s.heap.size ≤ q → A q := fun q h => by rw [← hAe]; exact Or.inr h
  have hS : va_S A s.heap s.heap [] := va_S.rf
  have hl := lv_entry ([.ref q]) (n := 2) (Nat.le_of_ble_eq_true rfl)
  rw [lg_entry_eq]
  generalize (lg_sl ([.ref q]) ++ List.replicate (2 - (lg_sl ([.ref q])).length) Slot.unset).toArray = ls at hl ⊢
  have hl : lv_has ls 2 [(0, .ref q)] := hl
  refine lv_aload_n hx hb d_Lc_init_0 rfl (lv_at hl 0 rfl) ?_
  refine W.objInit hx hb hown (hts _ ml_Lc_3) (hts _ mobj_i) (hts _ mobj_c) rfl (by rw [hml]; exact hl.1) rfl d_Lc_init_1 (Nat.le_of_ble_eq_true rfl) (Nat.le_of_ble_eq_true rfl) ?_
  refine W.eq (g2 := F0 m 4 ls []) rfl ?_
  refine lv_aload_n hx hb d_Lc_init_4 rfl (lv_at hl 0 rfl) ?_
  refine lv_iconst (v := 0) hx hb d_Lc_init_5 (by decide) ?_
  refine va_put (D := D) (ci := 2) (v := .int 0) (ty := .int) (C := R_Lc) (T := T_Lc) (N := 9) hx hb hts in_Lc ty_Lc tyok_Lc nm_Lc hown hK hP hD hS 0 rfl rfl 0 (by decide) (hts _ mf_Lc_defined) (fun _ h9 => h9) rfl (by decide +kernel) rfl rfl (Nat.le_of_ble_eq_true rfl) d_Lc_init_6 (fun H locs hP hD hS => ?_)
  have hP : va_P D vwCl [(q, .inr (2, [.int 0, .null, .null, .null, .null, .null, .null, .null, .null]))] H := hP
  have hD : va_D A [(q, .inr (2, [.int 0, .null, .null, .null, .null, .null, .null, .null, .null]))] := hD
  refine lv_aload_n hx hb d_Lc_init_9 rfl (lv_at hl 0 rfl) ?_
  refine lv_bipush (v := 31) hx hb d_Lc_init_10 (by decide) ?_
  refine va_newa (atype := .int) (ty := .int) (N' := 31) (a0 := (31, .inl (fun _ => 0))) hx hb (hts _ marr_I) rfl hK hP hD hS hA (fun _ => rfl) (by decide) (by decide) (by decide) (Nat.le_of_ble_eq_true rfl) (Nat.le_of_ble_eq_true rfl) d_Lc_init_12 (fun q11 cA H hK9 hP hD hS => ?_)
  obtain rfl : cI = cA := ll_sameI hK9 (i := 0) (j := 2) rfl rfl
  have hP : va_P D vwCl [(q, .inr (2, [.int 0, .null, .null, .null, .null, .null, .null, .null, .null])), (q11, .inl (cI, 31, .inl (fun _ => 0)))] H := hP
  have hD : va_D A [(q, .inr (2, [.int 0, .null, .null, .null, .null, .null, .null, .null, .null])), (q11, .inl (cI, 31, .inl (fun _ => 0)))] := hD
  refine va_putF (D := D) (ci := 2) (v := .ref q11) (ty := .array .int) (C := R_Lc) (T := T_Lc) (N := 9) hx hb hts in_Lc ty_Lc tyok_Lc nm_Lc hown hK hP hD hS 0 rfl rfl 1 (by decide) (hts _ mf_Lc_names) (fun _ h9 => h9) rfl hin rfl (by decide +kernel) rfl rfl (Nat.le_of_ble_eq_true rfl) d_Lc_init_14 (fun H locs hP hD hS => ?_)
  have hP : va_P D vwCl [(q, .inr (2, [.int 0, .ref q11, .null, .null, .null, .null, .null, .null, .null])), (q11, .inl (cI, 31, .inl (fun _ => 0)))] H := hP
  have hD : va_D A [(q, .inr (2, [.int 0, .ref q11, .null, .null, .null, .null, .null, .null, .null])), (q11, .inl (cI, 31, .inl (fun _ => 0)))] := hD
  refine lv_aload_n hx hb d_Lc_init_17 rfl (lv_at hl 0 rfl) ?_
  refine lv_bipush (v := 31) hx hb d_Lc_init_18 (by decide) ?_
  refine va_newa (atype := .int) (ty := .int) (N' := 31) (a0 := (31, .inl (fun _ => 0))) hx hb (hts _ marr_I) rfl hK hP hD hS hA (fun _ => rfl) (by decide) (by decide) (by decide) (Nat.le_of_ble_eq_true rfl) (Nat.le_of_ble_eq_true rfl) d_Lc_init_20 (fun q12 cA H hK9 hP hD hS => ?_)
  obtain rfl : cI = cA := ll_sameI hK9 (i := 0) (j := 2) rfl rfl
  have hP : va_P D vwCl [(q, .inr (2, [.int 0, .ref q11, .null, .null, .null, .null, .null, .null, .null])), (q11, .inl (cI, 31, .inl (fun _ => 0))), (q12, .inl (cI, 31, .inl (fun _ => 0)))] H := hP
  have hD : va_D A [(q, .inr (2, [.int 0, .ref q11, .null, .null, .null, .null, .null, .null, .null])), (q11, .inl (cI, 31, .inl (fun _ => 0))), (q12, .inl (cI, 31, .inl (fun _ => 0)))] := hD
  refine va_putF (D := D) (ci := 2) (v := .ref q12) (ty := .array .int) (C := R_Lc) (T := T_Lc) (N := 9) hx hb hts in_Lc ty_Lc tyok_Lc nm_Lc hown hK hP hD hS 0 rfl rfl 2 (by decide) (hts _ mf_Lc_definers) (fun _ h9 => h9) rfl hin rfl (by decide +kernel) rfl rfl (Nat.le_of_ble_eq_true rfl) d_Lc_init_22 (fun H locs hP hD hS => ?_)
  have hP : va_P D vwCl [(q, .inr (2, [.int 0, .ref q11, .ref q12, .null, .null, .null, .null, .null, .null])), (q11, .inl (cI, 31, .inl (fun _ => 0))), (q12, .inl (cI, 31, .inl (fun _ => 0)))] H := hP
  have hD : va_D A [(q, .inr (2, [.int 0, .ref q11, .ref q12, .null, .null, .null, .null, .null, .null])), (q11, .inl (cI, 31, .inl (fun _ => 0))), (q12, .inl (cI, 31, .inl (fun _ => 0)))] := hD
  refine lv_aload_n hx hb d_Lc_init_25 rfl (lv_at hl 0 rfl) ?_
  refine lv_bipush (v := 31) hx hb d_Lc_init_26 (by decide) ?_
  refine va_newa (atype := .int) (ty := .int) (N' := 31) (a0 := (31, .inl (fun _ => 0))) hx hb (hts _ marr_I) rfl hK hP hD hS hA (fun _ => rfl) (by decide) (by decide) (by decide) (Nat.le_of_ble_eq_true rfl) (Nat.le_of_ble_eq_true rfl) d_Lc_init_28 (fun q13 cA H hK9 hP hD hS => ?_)
  obtain rfl : cI = cA := ll_sameI hK9 (i := 0) (j := 2) rfl rfl
  have hP : va_P D vwCl [(q, .inr (2, [.int 0, .ref q11, .ref q12, .null, .null, .null, .null, .null, .null])), (q11, .inl (cI, 31, .inl (fun _ => 0))), (q12, .inl (cI, 31, .inl (fun _ => 0))), (q13, .inl (cI, 31, .inl (fun _ => 0)))] H := hP
  have hD : va_D A [(q, .inr (2, [.int 0, .ref q11, .ref q12, .null, .null, .null, .null, .null, .null])), (q11, .inl (cI, 31, .inl (fun _ => 0))), (q12, .inl (cI, 31, .inl (fun _ => 0))), (q13, .inl (cI, 31, .inl (fun _ => 0)))] := hD
  refine va_putF (D := D) (ci := 2) (v := .ref q13) (ty := .array .int) (C := R_Lc) (T := T_Lc) (N := 9) hx hb hts in_Lc ty_Lc tyok_Lc nm_Lc hown hK hP hD hS 0 rfl rfl 3 (by decide) (hts _ mf_Lc_superclasses) (fun _ h9 => h9) rfl hin rfl (by decide +kernel) rfl rfl (Nat.le_of_ble_eq_true rfl) d_Lc_init_30 (fun H locs hP hD hS => ?_)
  have hP : va_P D vwCl [(q, .inr (2, [.int 0, .ref q11, .ref q12, .ref q13, .null, .null, .null, .null, .null])), (q11, .inl (cI, 31, .inl (fun _ => 0))), (q12, .inl (cI, 31, .inl (fun _ => 0))), (q13, .inl (cI, 31, .inl (fun _ => 0)))] H := hP
  have hD : va_D A [(q, .inr (2, [.int 0, .ref q11, .ref q12, .ref q13, .null, .null, .null, .null, .null])), (q11, .inl (cI, 31, .inl (fun _ => 0))), (q12, .inl (cI, 31, .inl (fun _ => 0))), (q13, .inl (cI, 31, .inl (fun _ => 0)))] := hD
  refine lv_aload_n hx hb d_Lc_init_33 rfl (lv_at hl 0 rfl) ?_
  refine lv_bipush (v := 31) hx hb d_Lc_init_34 (by decide) ?_
  refine va_newa (atype := .int) (ty := .int) (N' := 31) (a0 := (31, .inl (fun _ => 0))) hx hb (hts _ marr_I) rfl hK hP hD hS hA (fun _ => rfl) (by decide) (by decide) (by decide) (Nat.le_of_ble_eq_true rfl) (Nat.le_of_ble_eq_true rfl) d_Lc_init_36 (fun q14 cA H hK9 hP hD hS => ?_)
  obtain rfl : cI = cA := ll_sameI hK9 (i := 0) (j := 2) rfl rfl
  have hP : va_P D vwCl [(q, .inr (2, [.int 0, .ref q11, .ref q12, .ref q13, .null, .null, .null, .null, .null])), (q11, .inl (cI, 31, .inl (fun _ => 0))), (q12, .inl (cI, 31, .inl (fun _ => 0))), (q13, .inl (cI, 31, .inl (fun _ => 0))), (q14, .inl (cI, 31, .inl (fun _ => 0)))] H := hP
  have hD : va_D A [(q, .inr (2, [.int 0, .ref q11, .ref q12, .ref q13, .null, .null, .null, .null, .null])), (q11, .inl (cI, 31, .inl (fun _ => 0))), (q12, .inl (cI, 31, .inl (fun _ => 0))), (q13, .inl (cI, 31, .inl (fun _ => 0))), (q14, .inl (cI, 31, .inl (fun _ => 0)))] := hD
  refine va_putF (D := D) (ci := 2) (v := .ref q14) (ty := .array .int) (C := R_Lc) (T := T_Lc) (N := 9) hx hb hts in_Lc ty_Lc tyok_Lc nm_Lc hown hK hP hD hS 0 rfl rfl 4 (by decide) (hts _ mf_Lc_interfaces) (fun _ h9 => h9) rfl hin rfl (by decide +kernel) rfl rfl (Nat.le_of_ble_eq_true rfl) d_Lc_init_38 (fun H locs hP hD hS => ?_)
  have hP : va_P D vwCl [(q, .inr (2, [.int 0, .ref q11, .ref q12, .ref q13, .ref q14, .null, .null, .null, .null])), (q11, .inl (cI, 31, .inl (fun _ => 0))), (q12, .inl (cI, 31, .inl (fun _ => 0))), (q13, .inl (cI, 31, .inl (fun _ => 0))), (q14, .inl (cI, 31, .inl (fun _ => 0)))] H := hP
  have hD : va_D A [(q, .inr (2, [.int 0, .ref q11, .ref q12, .ref q13, .ref q14, .null, .null, .null, .null])), (q11, .inl (cI, 31, .inl (fun _ => 0))), (q12, .inl (cI, 31, .inl (fun _ => 0))), (q13, .inl (cI, 31, .inl (fun _ => 0))), (q14, .inl (cI, 31, .inl (fun _ => 0)))] := hD
  refine lv_aload_n hx hb d_Lc_init_41 rfl (lv_at hl 0 rfl) ?_
  refine lv_bipush (v := 31) hx hb d_Lc_init_42 (by decide) ?_
  refine va_newa (atype := .int) (ty := .int) (N' := 31) (a0 := (31, .inl (fun _ => 0))) hx hb (hts _ marr_I) rfl hK hP hD hS hA (fun _ => rfl) (by decide) (by decide) (by decide) (Nat.le_of_ble_eq_true rfl) (Nat.le_of_ble_eq_true rfl) d_Lc_init_44 (fun q15 cA H hK9 hP hD hS => ?_)
  obtain rfl : cI = cA := ll_sameI hK9 (i := 0) (j := 2) rfl rfl
  have hP : va_P D vwCl [(q, .inr (2, [.int 0, .ref q11, .ref q12, .ref q13, .ref q14, .null, .null, .null, .null])), (q11, .inl (cI, 31, .inl (fun _ => 0))), (q12, .inl (cI, 31, .inl (fun _ => 0))), (q13, .inl (cI, 31, .inl (fun _ => 0))), (q14, .inl (cI, 31, .inl (fun _ => 0))), (q15, .inl (cI, 31, .inl (fun _ => 0)))] H := hP
  have hD : va_D A [(q, .inr (2, [.int 0, .ref q11, .ref q12, .ref q13, .ref q14, .null, .null, .null, .null])), (q11, .inl (cI, 31, .inl (fun _ => 0))), (q12, .inl (cI, 31, .inl (fun _ => 0))), (q13, .inl (cI, 31, .inl (fun _ => 0))), (q14, .inl (cI, 31, .inl (fun _ => 0))), (q15, .inl (cI, 31, .inl (fun _ => 0)))] := hD
  refine va_putF (D := D) (ci := 2) (v := .ref q15) (ty := .array .int) (C := R_Lc) (T := T_Lc) (N := 9) hx hb hts in_Lc ty_Lc tyok_Lc nm_Lc hown hK hP hD hS 0 rfl rfl 5 (by decide) (hts _ mf_Lc_marks) (fun _ h9 => h9) rfl hin rfl (by decide +kernel) rfl rfl (Nat.le_of_ble_eq_true rfl) d_Lc_init_46 (fun H locs hP hD hS => ?_)
  have hP : va_P D vwCl [(q, .inr (2, [.int 0, .ref q11, .ref q12, .ref q13, .ref q14, .ref q15, .null, .null, .null])), (q11, .inl (cI, 31, .inl (fun _ => 0))), (q12, .inl (cI, 31, .inl (fun _ => 0))), (q13, .inl (cI, 31, .inl (fun _ => 0))), (q14, .inl (cI, 31, .inl (fun _ => 0))), (q15, .inl (cI, 31, .inl (fun _ => 0)))] H := hP
  have hD : va_D A [(q, .inr (2, [.int 0, .ref q11, .ref q12, .ref q13, .ref q14, .ref q15, .null, .null, .null])), (q11, .inl (cI, 31, .inl (fun _ => 0))), (q12, .inl (cI, 31, .inl (fun _ => 0))), (q13, .inl (cI, 31, .inl (fun _ => 0))), (q14, .inl (cI, 31, .inl (fun _ => 0))), (q15, .inl (cI, 31, .inl (fun _ => 0)))] := hD
  refine lv_aload_n hx hb d_Lc_init_49 rfl (lv_at hl 0 rfl) ?_
  refine lv_bipush (v := 124) hx hb d_Lc_init_50 (by decide) ?_
  refine va_newa (atype := .int) (ty := .int) (N' := 124) (a0 := (124, .inl (fun _ => 0))) hx hb (hts _ marr_I) rfl hK hP hD hS hA (fun _ => rfl) (by decide) (by decide) (by decide) (Nat.le_of_ble_eq_true rfl) (Nat.le_of_ble_eq_true rfl) d_Lc_init_52 (fun q16 cA H hK9 hP hD hS => ?_)
  obtain rfl : cI = cA := ll_sameI hK9 (i := 0) (j := 2) rfl rfl
  have hP : va_P D vwCl [(q, .inr (2, [.int 0, .ref q11, .ref q12, .ref q13, .ref q14, .ref q15, .null, .null, .null])), (q11, .inl (cI, 31, .inl (fun _ => 0))), (q12, .inl (cI, 31, .inl (fun _ => 0))), (q13, .inl (cI, 31, .inl (fun _ => 0))), (q14, .inl (cI, 31, .inl (fun _ => 0))), (q15, .inl (cI, 31, .inl (fun _ => 0))), (q16, .inl (cI, 124, .inl (fun _ => 0)))] H := hP
  have hD : va_D A [(q, .inr (2, [.int 0, .ref q11, .ref q12, .ref q13, .ref q14, .ref q15, .null, .null, .null])), (q11, .inl (cI, 31, .inl (fun _ => 0))), (q12, .inl (cI, 31, .inl (fun _ => 0))), (q13, .inl (cI, 31, .inl (fun _ => 0))), (q14, .inl (cI, 31, .inl (fun _ => 0))), (q15, .inl (cI, 31, .inl (fun _ => 0))), (q16, .inl (cI, 124, .inl (fun _ => 0)))] := hD
  refine va_putF (D := D) (ci := 2) (v := .ref q16) (ty := .array .int) (C := R_Lc) (T := T_Lc) (N := 9) hx hb hts in_Lc ty_Lc tyok_Lc nm_Lc hown hK hP hD hS 0 rfl rfl 6 (by decide) (hts _ mf_Lc_referred) (fun _ h9 => h9) rfl hin rfl (by decide +kernel) rfl rfl (Nat.le_of_ble_eq_true rfl) d_Lc_init_54 (fun H locs hP hD hS => ?_)
  have hP : va_P D vwCl [(q, .inr (2, [.int 0, .ref q11, .ref q12, .ref q13, .ref q14, .ref q15, .ref q16, .null, .null])), (q11, .inl (cI, 31, .inl (fun _ => 0))), (q12, .inl (cI, 31, .inl (fun _ => 0))), (q13, .inl (cI, 31, .inl (fun _ => 0))), (q14, .inl (cI, 31, .inl (fun _ => 0))), (q15, .inl (cI, 31, .inl (fun _ => 0))), (q16, .inl (cI, 124, .inl (fun _ => 0)))] H := hP
  have hD : va_D A [(q, .inr (2, [.int 0, .ref q11, .ref q12, .ref q13, .ref q14, .ref q15, .ref q16, .null, .null])), (q11, .inl (cI, 31, .inl (fun _ => 0))), (q12, .inl (cI, 31, .inl (fun _ => 0))), (q13, .inl (cI, 31, .inl (fun _ => 0))), (q14, .inl (cI, 31, .inl (fun _ => 0))), (q15, .inl (cI, 31, .inl (fun _ => 0))), (q16, .inl (cI, 124, .inl (fun _ => 0)))] := hD
  refine lv_aload_n hx hb d_Lc_init_57 rfl (lv_at hl 0 rfl) ?_
  refine lv_bipush (v := 124) hx hb d_Lc_init_58 (by decide) ?_
  refine va_newa (atype := .int) (ty := .int) (N' := 124) (a0 := (124, .inl (fun _ => 0))) hx hb (hts _ marr_I) rfl hK hP hD hS hA (fun _ => rfl) (by decide) (by decide) (by decide) (Nat.le_of_ble_eq_true rfl) (Nat.le_of_ble_eq_true rfl) d_Lc_init_60 (fun q17 cA H hK9 hP hD hS => ?_)
  obtain rfl : cI = cA := ll_sameI hK9 (i := 0) (j := 2) rfl rfl
  have hP : va_P D vwCl [(q, .inr (2, [.int 0, .ref q11, .ref q12, .ref q13, .ref q14, .ref q15, .ref q16, .null, .null])), (q11, .inl (cI, 31, .inl (fun _ => 0))), (q12, .inl (cI, 31, .inl (fun _ => 0))), (q13, .inl (cI, 31, .inl (fun _ => 0))), (q14, .inl (cI, 31, .inl (fun _ => 0))), (q15, .inl (cI, 31, .inl (fun _ => 0))), (q16, .inl (cI, 124, .inl (fun _ => 0))), (q17, .inl (cI, 124, .inl (fun _ => 0)))] H := hP
  have hD : va_D A [(q, .inr (2, [.int 0, .ref q11, .ref q12, .ref q13, .ref q14, .ref q15, .ref q16, .null, .null])), (q11, .inl (cI, 31, .inl (fun _ => 0))), (q12, .inl (cI, 31, .inl (fun _ => 0))), (q13, .inl (cI, 31, .inl (fun _ => 0))), (q14, .inl (cI, 31, .inl (fun _ => 0))), (q15, .inl (cI, 31, .inl (fun _ => 0))), (q16, .inl (cI, 124, .inl (fun _ => 0))), (q17, .inl (cI, 124, .inl (fun _ => 0)))] := hD
  refine va_putF (D := D) (ci := 2) (v := .ref q17) (ty := .array .int) (C := R_Lc) (T := T_Lc) (N := 9) hx hb hts in_Lc ty_Lc tyok_Lc nm_Lc hown hK hP hD hS 0 rfl rfl 7 (by decide) (hts _ mf_Lc_kept) (fun _ h9 => h9) rfl hin rfl (by decide +kernel) rfl rfl (Nat.le_of_ble_eq_true rfl) d_Lc_init_62 (fun H locs hP hD hS => ?_)
  have hP : va_P D vwCl [(q, .inr (2, [.int 0, .ref q11, .ref q12, .ref q13, .ref q14, .ref q15, .ref q16, .ref q17, .null])), (q11, .inl (cI, 31, .inl (fun _ => 0))), (q12, .inl (cI, 31, .inl (fun _ => 0))), (q13, .inl (cI, 31, .inl (fun _ => 0))), (q14, .inl (cI, 31, .inl (fun _ => 0))), (q15, .inl (cI, 31, .inl (fun _ => 0))), (q16, .inl (cI, 124, .inl (fun _ => 0))), (q17, .inl (cI, 124, .inl (fun _ => 0)))] H := hP
  have hD : va_D A [(q, .inr (2, [.int 0, .ref q11, .ref q12, .ref q13, .ref q14, .ref q15, .ref q16, .ref q17, .null])), (q11, .inl (cI, 31, .inl (fun _ => 0))), (q12, .inl (cI, 31, .inl (fun _ => 0))), (q13, .inl (cI, 31, .inl (fun _ => 0))), (q14, .inl (cI, 31, .inl (fun _ => 0))), (q15, .inl (cI, 31, .inl (fun _ => 0))), (q16, .inl (cI, 124, .inl (fun _ => 0))), (q17, .inl (cI, 124, .inl (fun _ => 0)))] := hD
  refine lv_aload_n hx hb d_Lc_init_65 rfl (lv_at hl 0 rfl) ?_
  refine lv_bipush (v := 124) hx hb d_Lc_init_66 (by decide) ?_
  refine va_newa (atype := .int) (ty := .int) (N' := 124) (a0 := (124, .inl (fun _ => 0))) hx hb (hts _ marr_I) rfl hK hP hD hS hA (fun _ => rfl) (by decide) (by decide) (by decide) (Nat.le_of_ble_eq_true rfl) (Nat.le_of_ble_eq_true rfl) d_Lc_init_68 (fun q18 cA H hK9 hP hD hS => ?_)
  obtain rfl : cI = cA := ll_sameI hK9 (i := 0) (j := 2) rfl rfl
  have hP : va_P D vwCl [(q, .inr (2, [.int 0, .ref q11, .ref q12, .ref q13, .ref q14, .ref q15, .ref q16, .ref q17, .null])), (q11, .inl (cI, 31, .inl (fun _ => 0))), (q12, .inl (cI, 31, .inl (fun _ => 0))), (q13, .inl (cI, 31, .inl (fun _ => 0))), (q14, .inl (cI, 31, .inl (fun _ => 0))), (q15, .inl (cI, 31, .inl (fun _ => 0))), (q16, .inl (cI, 124, .inl (fun _ => 0))), (q17, .inl (cI, 124, .inl (fun _ => 0))), (q18, .inl (cI, 124, .inl (fun _ => 0)))] H := hP
  have hD : va_D A [(q, .inr (2, [.int 0, .ref q11, .ref q12, .ref q13, .ref q14, .ref q15, .ref q16, .ref q17, .null])), (q11, .inl (cI, 31, .inl (fun _ => 0))), (q12, .inl (cI, 31, .inl (fun _ => 0))), (q13, .inl (cI, 31, .inl (fun _ => 0))), (q14, .inl (cI, 31, .inl (fun _ => 0))), (q15, .inl (cI, 31, .inl (fun _ => 0))), (q16, .inl (cI, 124, .inl (fun _ => 0))), (q17, .inl (cI, 124, .inl (fun _ => 0))), (q18, .inl (cI, 124, .inl (fun _ => 0)))] := hD
  refine va_putF (D := D) (ci := 2) (v := .ref q18) (ty := .array .int) (C := R_Lc) (T := T_Lc) (N := 9) hx hb hts in_Lc ty_Lc tyok_Lc nm_Lc hown hK hP hD hS 0 rfl rfl 8 (by decide) (hts _ mf_Lc_keptCauses) (fun _ h9 => h9) rfl hin rfl (by decide +kernel) rfl rfl (Nat.le_of_ble_eq_true rfl) d_Lc_init_70 (fun H locs hP hD hS => ?_)
  have hP : va_P D vwCl [(q, .inr (2, [.int 0, .ref q11, .ref q12, .ref q13, .ref q14, .ref q15, .ref q16, .ref q17, .ref q18])), (q11, .inl (cI, 31, .inl (fun _ => 0))), (q12, .inl (cI, 31, .inl (fun _ => 0))), (q13, .inl (cI, 31, .inl (fun _ => 0))), (q14, .inl (cI, 31, .inl (fun _ => 0))), (q15, .inl (cI, 31, .inl (fun _ => 0))), (q16, .inl (cI, 124, .inl (fun _ => 0))), (q17, .inl (cI, 124, .inl (fun _ => 0))), (q18, .inl (cI, 124, .inl (fun _ => 0)))] H := hP
  have hD : va_D A [(q, .inr (2, [.int 0, .ref q11, .ref q12, .ref q13, .ref q14, .ref q15, .ref q16, .ref q17, .ref q18])), (q11, .inl (cI, 31, .inl (fun _ => 0))), (q12, .inl (cI, 31, .inl (fun _ => 0))), (q13, .inl (cI, 31, .inl (fun _ => 0))), (q14, .inl (cI, 31, .inl (fun _ => 0))), (q15, .inl (cI, 31, .inl (fun _ => 0))), (q16, .inl (cI, 124, .inl (fun _ => 0))), (q17, .inl (cI, 124, .inl (fun _ => 0))), (q18, .inl (cI, 124, .inl (fun _ => 0)))] := hD
  refine W.widen (k := 8) (n := 527) (by decide) (by decide) ?_
  have hX : ll_X D (wd_C (ll_ad [0, 0, q, 0, 0, 0, 0, 0, 0, 0, 0, q11, q12, q13, q14, q15, q16, q17, q18]) cI cZ) A s.heap H locs (fun _ _ => 0) := ⟨hP, hD, hS⟩
  have cx : ll_C p m c b_Lc_init 2 s _ "LoaderLab$Classes" D [(cI, .int), (cZ, .boolean)] := ⟨⟨hx, hb, hml, hown, hts⟩, hK⟩
  have kk : ∀ (f : ll_S) (H : Heap) (locs : List Loc) (ls : Array Slot), K f → ll_X D (wd_C (ll_ad [0, 0, q, 0, 0, 0, 0, 0, 0, 0, 0, q11, q12, q13, q14, q15, q16, q17, q18]) cI cZ) A s.heap H locs f → lv_has ls 2 [(0, .ref ((ll_ad [0, 0, q, 0, 0, 0, 0, 0, 0, 0, 0, q11, q12, q13, q14, q15, q16, q17, q18]) 2))] → W p l e { frames := 1, cells := 8, slots := 527, locals := 12 } s m #[Value.ref q] below meth c H locs 8 527 (MQ below (va_Qv (fun u : (Nat → Nat) × ll_S => u.1 2 = q ∧ K u.2) (fun u t => va_P D vwCl (wd_C u.1 cI cZ u.2) t.heap ∧ va_K D vwCl [(cI, .int), (cZ, .boolean)] t ∧ va_D A (wd_C u.1 cI cZ u.2)) A) #[Value.ref q] s 8 527 A) (F0 m 95 ls []) := fun f H locs ls hKf hX hl => W.vret hx hb hr (fun t ht hW => ⟨⟨(ll_ad [0, 0, q, 0, 0, 0, 0, 0, 0, 0, 0, q11, q12, q13, q14, q15, q16, q17, q18], f), rfl, ⟨rfl, hKf⟩, by rw [ht]; exact hX.1, va_K.moved hW.alike hK, hX.2.1⟩, hX.2.2.F ht⟩) hX.2.2.2.2 d_Lc_init_95
  have hl : lv_has ls 2 [(0, .ref ((ll_ad [0, 0, q, 0, 0, 0, 0, 0, 0, 0, 0, q11, q12, q13, q14, q15, q16, q17, q18]) 2))] := hl
  unfold G_Lc_init at hG
  refine lv_iconst (v := 0) hx hb d_Lc_init_73 (by decide) ?_
  refine lv_istore_n (lv' := [(1, .int 0), (0, .ref (ll_ad [0, 0, q, 0, 0, 0, 0, 0, 0, 0, 0, q11, q12, q13, q14, q15, q16, q17, q18] 2))]) hx hb d_Lc_init_74 rfl hl (by decide) rfl (fun ls hl => ?_)
  obtain ⟨kf, hG⟩ := hG
  exact (w_Lc_init l cx kk kf) _ _ _ _ _ hG hX (lv_sub hl [1, 0] rfl)
