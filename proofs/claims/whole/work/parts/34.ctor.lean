def ll_mix (f1 f2 : ll_S) : ll_S := fun r => if r < 8 then f1 r else if r < 17 then f2 r else fun _ => 0
abbrev ll_hX (q : Nat) (h1 h2 : Nat → Nat) : Nat → Nat := ll_ad [q, h1 1, h2 2, h1 3, h1 4, h1 5, h1 6, h1 7, h1 8, h1 9, h1 10, h2 11, h2 12, h2 13, h2 14, h2 15, h2 16, h2 17, h2 18]
set_option maxHeartbeats 8000000 in
set_option maxRecDepth 100000 in
/-- LoaderLab(): 18 cells of 829 slots come -/
theorem ci_La (l : Launch) (D : va_G) (cI cZ : ClassId) (q sz : Nat) (K : ll_S → Prop) (hG : G_Lb_init (fun _ _ => 0) (fun f1 => G_Lc_init (fun _ _ => 0) (fun f2 => K (ll_mix f1 f2)))) : Met l y_La_init (Cond.code y_La_init b_La_init 1 none :: ll_xt) { frames := 2, cells := 18, slots := 829, locals := 40 } (va_Pc [.ref q] (fun U => U.heap.size = sz ∧ va_P D vwCl [(q, .inr (0, [.null, .null, .int 0, .int 0, .int 0, .int 0]))] U.heap ∧ va_K D vwCl [(cI, .int), (cZ, .boolean)] U ∧ va_D (fun _ => True) [(q, .inr (0, [.null, .null, .int 0, .int 0, .int 0, .int 0]))])) (va_Qv (fun u : (Nat → Nat) × ll_S => u.1 0 = q ∧ K u.2) (fun u t => va_P D vwCl (wd_X u.1 cI cZ u.2) t.heap ∧ va_K D vwCl [(cI, .int), (cZ, .boolean)] t ∧ va_D (va_A [(q, .inr (0, [.null, .null, .int 0, .int 0, .int 0, .int 0]))] sz) (wd_X u.1 cI cZ u.2)) (va_A [(q, .inr (0, [.null, .null, .int 0, .int 0, .int 0, .int 0]))] sz)) 18 829 (va_A [(q, .inr (0, [.null, .null, .int 0, .int 0, .int 0, .int 0]))] sz) := by
  refine Met.ofW (cc := b_La_init) (maxL := 1) (ret := none) (by decide) rfl ?_
  intro p e s m args below meth c s₁ B hml hv
  obtain ⟨rfl, hsz, hP, hK, hD0⟩ := hv
  have hx := B.exec
  have hb := B.bytes
  have hr := B.returns
  have hts0 := atoms_spec (ws := Cond.code y_La_init b_La_init 1 none :: ll_xt) B.pre
  have hts : ∀ w ∈ ll_xt, w.before _ s = true := fun w h => hts0 w (List.mem_cons_of_mem _ h)
  have hown : s.vm.findClass "LoaderLab" = some m.cls := findClass_of_methodNamed B.named
  have hlocks := B.notSynchronized
  have hin : meth.name = "<init>" := (name_of_methodNamed B.named B.method).1
  subst hsz
  have hD := hD0.self (sz := s.heap.size)
  generalize hAe : va_A [(q, .inr (0, [.null, .null, .int 0, .int 0, .int 0, .int 0]))] s.heap.size = A at hD ⊢
  have hA : ∀ q : Nat, s.heap.size ≤ q → A q := fun q h => by rw [← hAe]; exact Or.inr h
  have hS : va_S A s.heap s.heap [] := va_S.rf
  have hl := lv_entry ([.ref q]) (n := 1) (Nat.le_of_ble_eq_true rfl)
  rw [lg_entry_eq]
  generalize (lg_sl ([.ref q]) ++ List.replicate (1 - (lg_sl ([.ref q])).length) Slot.unset).toArray = ls at hl ⊢
  have hl : lv_has ls 1 [(0, .ref q)] := hl
  refine lv_aload_n hx hb d_La_init_0 rfl (lv_at hl 0 rfl) ?_
  refine W.objInit hx hb hown (hts _ ml_La_3) (hts _ mobj_i) (hts _ mobj_c) rfl (by rw [hml]; exact hl.1) rfl d_La_init_1 (Nat.le_of_ble_eq_true rfl) (Nat.le_of_ble_eq_true rfl) ?_
  refine W.eq (g2 := F0 m 4 ls []) rfl ?_
  refine lv_aload_n hx hb d_La_init_4 rfl (lv_at hl 0 rfl) ?_
  refine va_new (ci := 1) (fs := [.null, .null, .null, .null, .null, .null, .null, .null]) (C := R_Lb) (T := T_Lb) (N := 8) hx hb hts in_Lb ty_Lb tyok_Lb hown (hts _ mn_La_1) (hts _ minst_Lb) (hts _ mini_Lb) hK hP hD hS hA rfl (fun j hj => by rcases (show j = 0 ∨ j = 1 ∨ j = 2 ∨ j = 3 ∨ j = 4 ∨ j = 5 ∨ j = 6 ∨ j = 7 by omega) with rfl | rfl | rfl | rfl | rfl | rfl | rfl | rfl <;> rfl) (Nat.le_of_ble_eq_true rfl) (Nat.le_of_ble_eq_true rfl) d_La_init_5 (fun q1 H hP hD hS => ?_)
  have hP : va_P D vwCl [(q, .inr (0, [.null, .null, .int 0, .int 0, .int 0, .int 0])), (q1, .inr (1, [.null, .null, .null, .null, .null, .null, .null, .null]))] H := hP
  have hD : va_D A [(q, .inr (0, [.null, .null, .int 0, .int 0, .int 0, .int 0])), (q1, .inr (1, [.null, .null, .null, .null, .null, .null, .null, .null]))] := hD
  refine W.widen (k := 1) (n := 8) (by decide) (by decide) ?_
  refine lv_dup hx hb d_La_init_8 rfl ?_
  have hPc := hP.sub (ws' := [(q1, .inr (1, [.null, .null, .null, .null, .null, .null, .null, .null]))]) [1] rfl
  have hDc := hD.sub (ws' := [(q1, .inr (1, [.null, .null, .null, .null, .null, .null, .null, .null]))]) [1] (by decide) rfl
  have hFc := va_free (wc := [(q1, .inr (1, [.null, .null, .null, .null, .null, .null, .null, .null]))]) hD hS hA [1] rfl
  refine va_callv (va_runI (As := []) (rest := [.ref q1, .ref q]) ⟨hx, hb, hml, hown, hts⟩ (ci_Lb l D cI cZ q1 H.size _ hG) (cwI 0 hts (ll_good mc_Lb_init) rfl rfl rfl (hts _ mini_Lb) (hts _ ml_La_9) (hts _ mi_Lb_init) rfl (by decide +kernel) ⟨Nat.le_of_ble_eq_true rfl, Nat.le_of_ble_eq_true rfl⟩) ⟨fun a U g mk q => by obtain ⟨q0, q1, qP, qK, qD⟩ := q; exact ⟨q0, q1, qP, va_K.moved (u := U) (U := U.calling g mk a) (Vm.Alike.refl U.vm) qK, qD⟩, fun U hU hW => ⟨rfl, by rw [hU], by rw [hU]; exact hPc, va_K.moved hW.alike hK, hDc.weaken (fun _ _ _ _ => trivial)⟩⟩ rfl rfl hl.1 rfl (lv_room (Nat.le_of_ble_eq_true rfl)) d_La_init_9 ⟨Nat.le_of_ble_eq_true rfl, Nat.le_of_ble_eq_true rfl⟩) hS (fun q _ h => hFc q h) hFc (fun u t H1 locs ht hvm hw hB hz1 hk1 hS => ?_)
  obtain ⟨h1, f1⟩ := u
  obtain ⟨hP1, hK1, hD1⟩ := hB
  rw [ht] at hP1
  obtain ⟨e1, hG⟩ := hw
  dsimp only at hP1 hD1 e1 hG
  subst e1
  obtain ⟨hP, hD⟩ := va_join (wr := [(q, .inr (0, [.null, .null, .int 0, .int 0, .int 0, .int 0]))]) (w1 := wd_B h1 cI cZ f1) hP hD [1] [0] rfl rfl (by decide) (by decide) hk1 hFc hP1 hD1
  generalize H1 = H at hP hS ⊢
  have hP : va_P D vwCl ((q, .inr (0, [.null, .null, .int 0, .int 0, .int 0, .int 0])) :: wd_B h1 cI cZ f1) H := hP
  have hD : va_D A ((q, .inr (0, [.null, .null, .int 0, .int 0, .int 0, .int 0])) :: wd_B h1 cI cZ f1) := hD
  refine va_putF (D := D) (ci := 0) (v := .ref (h1 1)) (ty := .object "LoaderLab$Loaders") (C := R_La) (T := T_La) (N := 6) hx hb hts in_La ty_La tyok_La nm_La hown hK hP hD hS 0 rfl rfl 0 (by decide) (hts _ mf_La_loaders) (fun _ h9 => h9) rfl hin rfl (by decide +kernel) rfl rfl (Nat.le_of_ble_eq_true rfl) d_La_init_12 (fun H locs hP hD hS => ?_)
  have hP : va_P D vwCl ((q, .inr (0, [.ref (h1 1), .null, .int 0, .int 0, .int 0, .int 0])) :: wd_B h1 cI cZ f1) H := hP
  have hD : va_D A ((q, .inr (0, [.ref (h1 1), .null, .int 0, .int 0, .int 0, .int 0])) :: wd_B h1 cI cZ f1) := hD
  refine W.widen (k := 9) (n := 293) (by decide) (by decide) ?_
  refine lv_aload_n hx hb d_La_init_15 rfl (lv_at hl 0 rfl) ?_
  refine va_new (ci := 2) (fs := [.int 0, .null, .null, .null, .null, .null, .null, .null, .null]) (C := R_Lc) (T := T_Lc) (N := 9) hx hb hts in_Lc ty_Lc tyok_Lc hown (hts _ mn_La_16) (hts _ minst_Lc) (hts _ mini_Lc) hK hP hD hS hA rfl (fun j hj => by rcases (show j = 0 ∨ j = 1 ∨ j = 2 ∨ j = 3 ∨ j = 4 ∨ j = 5 ∨ j = 6 ∨ j = 7 ∨ j = 8 by omega) with rfl | rfl | rfl | rfl | rfl | rfl | rfl | rfl | rfl <;> rfl) (Nat.le_of_ble_eq_true rfl) (Nat.le_of_ble_eq_true rfl) d_La_init_16 (fun q2 H hP hD hS => ?_)
  have hP : va_P D vwCl ((q, .inr (0, [.ref (h1 1), .null, .int 0, .int 0, .int 0, .int 0])) :: wd_B h1 cI cZ f1 ++ [(q2, .inr (2, [.int 0, .null, .null, .null, .null, .null, .null, .null, .null]))]) H := hP
  have hD : va_D A ((q, .inr (0, [.ref (h1 1), .null, .int 0, .int 0, .int 0, .int 0])) :: wd_B h1 cI cZ f1 ++ [(q2, .inr (2, [.int 0, .null, .null, .null, .null, .null, .null, .null, .null]))]) := hD
  refine W.widen (k := 10) (n := 302) (by decide) (by decide) ?_
  refine lv_dup hx hb d_La_init_19 rfl ?_
  have hPc := hP.sub (ws' := [(q2, .inr (2, [.int 0, .null, .null, .null, .null, .null, .null, .null, .null]))]) [10] rfl
  have hDc := hD.sub (ws' := [(q2, .inr (2, [.int 0, .null, .null, .null, .null, .null, .null, .null, .null]))]) [10] (by decide) rfl
  have hFc := va_free (wc := [(q2, .inr (2, [.int 0, .null, .null, .null, .null, .null, .null, .null, .null]))]) hD hS hA [10] rfl
  refine va_callv (va_runI (As := []) (rest := [.ref q2, .ref q]) ⟨hx, hb, hml, hown, hts⟩ (ci_Lc l D cI cZ q2 H.size _ hG) (cwI 0 hts (ll_good mc_Lc_init) rfl rfl rfl (hts _ mini_Lc) (hts _ ml_La_18) (hts _ mi_Lc_init) rfl (by decide +kernel) ⟨Nat.le_of_ble_eq_true rfl, Nat.le_of_ble_eq_true rfl⟩) ⟨fun a U g mk q => by obtain ⟨q0, q1, qP, qK, qD⟩ := q; exact ⟨q0, q1, qP, va_K.moved (u := U) (U := U.calling g mk a) (Vm.Alike.refl U.vm) qK, qD⟩, fun U hU hW => ⟨rfl, by rw [hU], by rw [hU]; exact hPc, va_K.moved hW.alike hK, hDc.weaken (fun _ _ _ _ => trivial)⟩⟩ rfl rfl hl.1 rfl (lv_room (Nat.le_of_ble_eq_true rfl)) d_La_init_20 ⟨Nat.le_of_ble_eq_true rfl, Nat.le_of_ble_eq_true rfl⟩) hS (fun q _ h => hFc q h) hFc (fun u t H1 locs ht hvm hw hB hz1 hk1 hS => ?_)
  obtain ⟨h2, f2⟩ := u
  obtain ⟨hP1, hK1, hD1⟩ := hB
  rw [ht] at hP1
  obtain ⟨e2, hG⟩ := hw
  dsimp only at hP1 hD1 e2 hG
  subst e2
  obtain ⟨hP, hD⟩ := va_join (wr := (q, .inr (0, [.ref (h1 1), .null, .int 0, .int 0, .int 0, .int 0])) :: wd_B h1 cI cZ f1) (w1 := wd_C h2 cI cZ f2) hP hD [10] [0, 1, 2, 3, 4, 5, 6, 7, 8, 9] rfl rfl (by decide) (by decide) hk1 hFc hP1 hD1
  generalize H1 = H at hP hS ⊢
  refine va_putF (D := D) (ci := 0) (v := .ref (h2 2)) (ty := .object "LoaderLab$Classes") (C := R_La) (T := T_La) (N := 6) hx hb hts in_La ty_La tyok_La nm_La hown hK hP hD hS 0 rfl rfl 1 (by decide) (hts _ mf_La_classes) (fun _ h9 => h9) rfl hin rfl (by decide +kernel) rfl rfl (Nat.le_of_ble_eq_true rfl) d_La_init_23 (fun H locs hP hD hS => ?_)
  have hP : va_P D vwCl ((q, .inr (0, [.ref (h1 1), .ref (h2 2), .int 0, .int 0, .int 0, .int 0])) :: wd_B h1 cI cZ f1 ++ wd_C h2 cI cZ f2) H := hP
  have hD : va_D A ((q, .inr (0, [.ref (h1 1), .ref (h2 2), .int 0, .int 0, .int 0, .int 0])) :: wd_B h1 cI cZ f1 ++ wd_C h2 cI cZ f2) := hD
  refine W.widen (k := 18) (n := 829) (by decide) (by decide) ?_
  have hP := hP.sub (ws' := wd_X (ll_hX q h1 h2) cI cZ (ll_mix f1 f2)) [0, 1, 10, 2, 3, 4, 5, 6, 7, 8, 9, 11, 12, 13, 14, 15, 16, 17, 18] rfl
  have hD := hD.sub (ws' := wd_X (ll_hX q h1 h2) cI cZ (ll_mix f1 f2)) [0, 1, 10, 2, 3, 4, 5, 6, 7, 8, 9, 11, 12, 13, 14, 15, 16, 17, 18] (by decide) rfl
  have hX : ll_X D (wd_X (ll_hX q h1 h2) cI cZ) A s.heap H locs (ll_mix f1 f2) := ⟨hP, hD, hS⟩
  have cx : ll_C p m c b_La_init 1 s #[Value.ref q] "LoaderLab" D [(cI, .int), (cZ, .boolean)] := ⟨⟨hx, hb, hml, hown, hts⟩, hK⟩
  have hl : lv_has ls 1 [(0, .ref ((ll_hX q h1 h2) 0))] := hl
  have hf : ∀ r, 17 ≤ r → ll_w (ll_mix f1 f2) r 0 0 = ll_mix f1 f2 := by
    intro r hr
    funext a b
    by_cases ha : a = r
    · subst ha
      have h1 : ll_mix f1 f2 a = fun _ => 0 := by simp [ll_mix, show ¬ a < 8 by omega, show ¬ a < 17 by omega]
      simp [ll_w, upd, h1]
    · simp [ll_w, ha]
  refine lv_aload_n hx hb d_La_init_26 rfl (lv_at hl 0 rfl) ?_
  refine lv_iconst (v := 0) hx hb d_La_init_27 (by decide) ?_
  refine px_La_begun cx hX d_La_init_28 (fun g1 eg H locs hX => ?_)
  rw [hf 17 (by decide)] at eg
  subst eg
  refine lv_aload_n hx hb d_La_init_31 rfl (lv_at hl 0 rfl) ?_
  refine lv_iconst (v := 0) hx hb d_La_init_32 (by decide) ?_
  refine px_La_risingCause cx hX d_La_init_33 (fun g1 eg H locs hX => ?_)
  rw [hf 18 (by decide)] at eg
  subst eg
  refine lv_aload_n hx hb d_La_init_36 rfl (lv_at hl 0 rfl) ?_
  refine lv_iconst (v := 0) hx hb d_La_init_37 (by decide) ?_
  refine px_La_lastFailure cx hX d_La_init_38 (fun g1 eg H locs hX => ?_)
  rw [hf 19 (by decide)] at eg
  subst eg
  refine lv_aload_n hx hb d_La_init_41 rfl (lv_at hl 0 rfl) ?_
  refine lv_iconst (v := 0) hx hb d_La_init_42 (by decide) ?_
  refine px_La_lastCause cx hX d_La_init_43 (fun g1 eg H locs hX => ?_)
  rw [hf 20 (by decide)] at eg
  subst eg
  exact W.vret hx hb hr (fun t ht hW => ⟨⟨(ll_hX q h1 h2, ll_mix f1 f2), rfl, ⟨rfl, hG⟩, by rw [ht]; exact hX.1, va_K.moved hW.alike hK, hX.2.1⟩, hX.2.2.F ht⟩) hX.2.2.2.2 d_La_init_46
