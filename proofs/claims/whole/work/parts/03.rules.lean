/-! rules of my own over the kit's rows: one world for all methods of a system, a predicate transformer for each method -/
abbrev ll_S : Type := Nat → Nat → Int32
def ll_w (f : ll_S) (k i : Nat) (v : Int32) : ll_S := fun r => if r = k then upd (f k) i v else f r
def ll_gw (w : Cond) : Bool := k2_isCode w || goodWord w
def ll_xt : List Cond := lw_tbl.filter ll_gw
theorem ll_xt_good {w : Cond} (h : ll_gw w = true) : (w.onTables && w.keeps) = true ∨ ∃ ty, w = .arrayClass ty := by
  simp only [ll_gw, Bool.or_eq_true] at h
  rcases h with h | h
  · cases w <;> first | (simp [k2_isCode] at h; done) | exact Or.inl rfl
  · exact good_of_word h
theorem ll_in {w : Cond} (h : w ∈ lw_tbl) (hg : ll_gw w = true) : w ∈ ll_xt := List.mem_filter.mpr ⟨h, hg⟩
theorem ll_good {y : MethodName} {cc : ByteArray} {n : Nat} {ret : Option FieldType} (hc : Cond.code y cc n ret ∈ lw_tbl) : GoodIn ll_xt (Cond.code y cc n ret :: ll_xt) := by
  intro w hw
  rcases List.mem_cons.mp hw with rfl | hw
  · exact ⟨ll_in hc rfl, Or.inl rfl⟩
  · exact ⟨hw, ll_xt_good (List.mem_filter.mp hw).2⟩
def ll_rk (r : Nat) : Room := { frames := r, cells := 0, slots := 0, locals := 40 * r }
theorem ll_hR {r r' maxL : Nat} (h : r + 1 ≤ r') (hm : maxL ≤ 21) : (ll_rk r).frames + 1 ≤ (ll_rk r').frames ∧ 8 + (maxL + 11) + (ll_rk r).locals ≤ (ll_rk r').locals :=
  ⟨h, by show 8 + (maxL + 11) + 40 * r ≤ 40 * r'; omega⟩
def ll_b01 (v : Int32) : Prop := v = 0 ∨ v = 1
theorem ll_b01n {v : Int32} (h : ll_b01 v) : narrow .boolean (.int v) = .int v := by
  rcases h with rfl | rfl <;> decide
abbrev ll_C (p : Program) (m : MethodId) (c : Code) (cc : ByteArray) (nL : Nat) (s : State) (args : Array Value) (own : String) (D : va_G) (tys : List (ClassId × FieldType)) : Prop := CallFix p m c cc nL s args ll_xt own ∧ va_K D vwCl tys s
abbrev ll_X {S : Type} (D : va_G) (wd : S → va_W) (A : Nat → Prop) (H0 H : Heap) (locs : List Loc) (f : S) : Prop := va_P D vwCl (wd f) H ∧ va_D A (wd f) ∧ va_S A H0 H locs
abbrev ll_Po {S : Type} (D : va_G) (tys : List (ClassId × FieldType)) (wd : S → va_W) (f : S) (sz : Nat) (U : State) : Prop := U.heap.size = sz ∧ va_P D vwCl (wd f) U.heap ∧ va_K D vwCl tys U ∧ va_D (fun _ => True) (wd f)
abbrev ll_Bo {S : Type} (D : va_G) (tys : List (ClassId × FieldType)) (wd : S → va_W) (f : S) (sz : Nat) (u : S) (t : State) : Prop := va_P D vwCl (wd u) t.heap ∧ va_K D vwCl tys t ∧ va_D (va_A (wd f) sz) (wd u)
def ll_Mi {S : Type} (l : Launch) (y : MethodName) (ws : List Cond) (rm : Room) (D : va_G) (tys : List (ClassId × FieldType)) (wd : S → va_W) (av : List Value) (f : S) (K : Int32 → S → Prop) : Prop :=
  ∀ sz : Nat, Met l y ws rm (va_Pc av (ll_Po D tys wd f sz)) (va_Qi K (ll_Bo D tys wd f sz) (va_A (wd f) sz)) 0 0 (va_A (wd f) sz)
def ll_Mv {S : Type} (l : Launch) (y : MethodName) (ws : List Cond) (rm : Room) (D : va_G) (tys : List (ClassId × FieldType)) (wd : S → va_W) (av : List Value) (f : S) (K : S → Prop) : Prop :=
  ∀ sz : Nat, Met l y ws rm (va_Pc av (ll_Po D tys wd f sz)) (va_Qv K (ll_Bo D tys wd f sz) (va_A (wd f) sz)) 0 0 (va_A (wd f) sz)
def ll_Qi {S : Type} (below : List Frame) (args : Array Value) (s : State) (D : va_G) (tys : List (ClassId × FieldType)) (wd : S → va_W) (f : S) (K : Int32 → S → Prop) : State → Prop :=
  MQ below (va_Qi K (ll_Bo D tys wd f s.heap.size) (va_A (wd f) s.heap.size)) args s 0 0 (va_A (wd f) s.heap.size)
def ll_Qv {S : Type} (below : List Frame) (args : Array Value) (s : State) (D : va_G) (tys : List (ClassId × FieldType)) (wd : S → va_W) (f : S) (K : S → Prop) : State → Prop :=
  MQ below (va_Qv K (ll_Bo D tys wd f s.heap.size) (va_A (wd f) s.heap.size)) args s 0 0 (va_A (wd f) s.heap.size)
theorem ll_starti {S : Type} {l : Launch} {y : MethodName} {cc : ByteArray} {nL : Nat} {ret : Option FieldType} {rm : Room} {D : va_G} {tys : List (ClassId × FieldType)} {wd : S → va_W} {av : List Value} {f : S} {K : Int32 → S → Prop} {own : String} (hy : plainName y.cls = true) (ho : y.cls = own) (hav : (lg_sl av).length ≤ nL)
    (body : ∀ (p : Program) (e : Env) (s : State) (m : MethodId) (below : List Frame) (meth : Method) (c : Code) (ls : Array Slot), ll_C p m c cc nL s av.toArray own D tys → meth.sig.returnType = ret → meth.locks = false → (∀ q, s.heap.size ≤ q → va_A (wd f) s.heap.size q) → ll_X D wd (va_A (wd f) s.heap.size) s.heap s.heap [] f → lv_has ls nL (lv_args 0 av) →
      W p l e rm s m av.toArray below meth c s.heap [] 0 0 (ll_Qi below av.toArray s D tys wd f K) (F0 m 0 ls [])) : ll_Mi l y (Cond.code y cc nL ret :: ll_xt) rm D tys wd av f K := by
  intro sz
  refine Met.ofW (cc := cc) (maxL := nL) (ret := ret) hy rfl ?_
  intro p e s m args below meth c s₁ B hml hv
  obtain ⟨rfl, hsz, hP, hK, hD0⟩ := hv
  subst hsz
  have hts := atoms_spec (ws := Cond.code y cc nL ret :: ll_xt) B.pre
  have hown : s.vm.findClass own = some m.cls := by rw [← ho]; exact findClass_of_methodNamed B.named
  rw [lg_entry_eq]
  exact body p e s m below meth c _ ⟨⟨B.exec, B.bytes, hml, hown, fun w h => hts w (List.mem_cons_of_mem _ h)⟩, hK⟩ B.returns B.notSynchronized (fun q h => Or.inr h) ⟨hP, hD0.self, va_S.rf⟩ (lv_entry av hav)
theorem ll_startv {S : Type} {l : Launch} {y : MethodName} {cc : ByteArray} {nL : Nat} {ret : Option FieldType} {rm : Room} {D : va_G} {tys : List (ClassId × FieldType)} {wd : S → va_W} {av : List Value} {f : S} {K : S → Prop} {own : String} (hy : plainName y.cls = true) (ho : y.cls = own) (hav : (lg_sl av).length ≤ nL)
    (body : ∀ (p : Program) (e : Env) (s : State) (m : MethodId) (below : List Frame) (meth : Method) (c : Code) (ls : Array Slot), ll_C p m c cc nL s av.toArray own D tys → meth.sig.returnType = ret → meth.locks = false → (∀ q, s.heap.size ≤ q → va_A (wd f) s.heap.size q) → ll_X D wd (va_A (wd f) s.heap.size) s.heap s.heap [] f → lv_has ls nL (lv_args 0 av) →
      W p l e rm s m av.toArray below meth c s.heap [] 0 0 (ll_Qv below av.toArray s D tys wd f K) (F0 m 0 ls [])) : ll_Mv l y (Cond.code y cc nL ret :: ll_xt) rm D tys wd av f K := by
  intro sz
  refine Met.ofW (cc := cc) (maxL := nL) (ret := ret) hy rfl ?_
  intro p e s m args below meth c s₁ B hml hv
  obtain ⟨rfl, hsz, hP, hK, hD0⟩ := hv
  subst hsz
  have hts := atoms_spec (ws := Cond.code y cc nL ret :: ll_xt) B.pre
  have hown : s.vm.findClass own = some m.cls := by rw [← ho]; exact findClass_of_methodNamed B.named
  rw [lg_entry_eq]
  exact body p e s m below meth c _ ⟨⟨B.exec, B.bytes, hml, hown, fun w h => hts w (List.mem_cons_of_mem _ h)⟩, hK⟩ B.returns B.notSynchronized (fun q h => Or.inr h) ⟨hP, hD0.self, va_S.rf⟩ (lv_entry av hav)
section LLR
variable {p : Program} {l : Launch} {e : Env} {R : Room} {s : State} {m : MethodId} {args : Array Value} {below : List Frame} {meth : Method} {c : Code} {H : Heap} {locs : List Loc} {cells slots : Nat} {Q : State → Prop}
variable {S : Type} {cc bytes : ByteArray} {nL maxL index n pc : Nat} {own C : String} {D : va_G} {tys : List (ClassId × FieldType)} {wd : S → va_W} {f u : S} {A : Nat → Prop} {H0 : Heap} {ls : Array Slot} {rest st As : List Value} {y : MethodName} {ws : List Cond} {rm : Room} {ret : Option FieldType} {b : Nat}
theorem ll_iret {K : Int32 → S → Prop} {v : Int32} (cx : ll_C p m c cc nL s args own D tys) (hr : meth.sig.returnType = some .int) (hlk : meth.locks = false) (hX : ll_X D wd (va_A (wd f) s.heap.size) s.heap H locs u) (hK : K v u) (hdg : decode cc pc = .ok (.ireturn, 1)) : W p l e R s m args below meth c H locs 0 0 (ll_Qi below args s D tys wd f K) (F0 m pc ls [.int v]) :=
  W.iret (v := v) cx.1.1 cx.1.2.1 hr (fun t ht hW => ⟨⟨v, u, rfl, hK, by rw [ht]; exact hX.1, va_K.moved hW.alike cx.2, hX.2.1⟩, hX.2.2.F ht⟩) hX.2.2.2.2 hdg hlk
theorem ll_zret {K : Int32 → S → Prop} {v : Int32} (cx : ll_C p m c cc nL s args own D tys) (hr : meth.sig.returnType = some .boolean) (hlk : meth.locks = false) (hX : ll_X D wd (va_A (wd f) s.heap.size) s.heap H locs u) (hn : narrow .boolean (.int v) = .int v) (hK : K v u) (hdg : decode cc pc = .ok (.ireturn, 1)) : W p l e R s m args below meth c H locs 0 0 (ll_Qi below args s D tys wd f K) (F0 m pc ls [.int v]) :=
  W.zret (v := v) cx.1.1 cx.1.2.1 hr hn (fun t ht hW => ⟨⟨v, u, rfl, hK, by rw [ht]; exact hX.1, va_K.moved hW.alike cx.2, hX.2.1⟩, hX.2.2.F ht⟩) hX.2.2.2.2 hdg hlk
theorem ll_vret {K : S → Prop} (cx : ll_C p m c cc nL s args own D tys) (hr : meth.sig.returnType = none) (hlk : meth.locks = false) (hX : ll_X D wd (va_A (wd f) s.heap.size) s.heap H locs u) (hK : K u) (hdg : decode cc pc = .ok (.return_, 1)) : W p l e R s m args below meth c H locs 0 0 (ll_Qv below args s D tys wd f K) (F0 m pc ls []) :=
  W.vret cx.1.1 cx.1.2.1 hr (fun t ht hW => ⟨⟨u, rfl, hK, by rw [ht]; exact hX.1, va_K.moved hW.alike cx.2, hX.2.1⟩, hX.2.2.F ht⟩) hX.2.2.2.2 hdg hlk
theorem ll_F (hA : ∀ q, H0.size ≤ q → A q) (hX : ll_X D wd A H0 H locs f) : ∀ q, va_A (wd f) H.size q → A q := by
  intro q h
  rcases h with ⟨k, e, h⟩ | h
  · exact hX.2.1.2 k (q, e) h
  · exact hA q (Nat.le_trans hX.2.2.1 h)
theorem ll_blind {av : List Value} {sz : Nat} : FrameBlind (va_Pc av (ll_Po D tys wd f sz)) := fun a U g mk q => by
  obtain ⟨q0, q1, qP, qK, qD⟩ := q
  exact ⟨q0, q1, qP, va_K.moved (u := U) (U := U.calling g mk a) (Vm.Alike.refl U.vm) qK, qD⟩
theorem ll_callvi {K : Int32 → S → Prop} (cx : ll_C p m c cc nL s args own D tys) (hA : ∀ q, H0.size ≤ q → A q) (hX : ll_X D wd A H0 H locs f) (hM : ll_Mi l y ws rm D tys wd (.ref b :: As) f K) (cw : CallW R s args own C index y bytes maxL ret ws rm 0 0 n)
    (hv : ∃ cell : Cell, H[b]? = some cell ∧ cell.vm.isStatics = false ∧ s.vm.findClass C = some cell.cls) (hn : As.length = n) (hls : ls.size = nL) (hst : st = As.reverse ++ .ref b :: rest) (hrm : (rest.map fun v => v.category).sum ≤ 8) (hdg : decode cc pc = .ok (.invokevirtual index, 3)) (hf : cells + 0 ≤ R.cells ∧ slots + 0 ≤ R.slots)
    (kk : ∀ (r : Int32) (u : S) (H1 : Heap) (locs1 : List Loc), K r u → ll_X D wd A H0 H1 locs1 u → W p l e R s m args below meth c H1 locs1 cells slots Q (F0 m (pc + 3) ls (.int r :: rest))) : W p l e R s m args below meth c H locs cells slots Q (F0 m pc ls st) := by
  subst hst
  have hF := ll_F hA hX
  refine va_calli (va_runV (As := As) (rest := rest) cx.1 (hM H.size) cw ⟨ll_blind, hv, fun U hU hW => ⟨rfl, by rw [hU], by rw [hU]; exact hX.1, va_K.moved hW.alike cx.2, ⟨hX.2.1.1, fun _ _ _ => trivial⟩⟩⟩ rfl hn hls rfl (lv_room hrm) hdg hf) hX.2.2 (fun q _ h => hF q h) hF (fun r u t H1 locs1 ht hvm hw hB hz1 hk1 hS1 => ?_)
  obtain ⟨hP1, hK1, hD1⟩ := hB
  rw [ht] at hP1
  exact kk r u H1 locs1 hw ⟨hP1, hD1.weaken (fun _ q _ h => hF q.1 h), hS1⟩
theorem ll_callvv {K : S → Prop} (cx : ll_C p m c cc nL s args own D tys) (hA : ∀ q, H0.size ≤ q → A q) (hX : ll_X D wd A H0 H locs f) (hM : ll_Mv l y ws rm D tys wd (.ref b :: As) f K) (cw : CallW R s args own C index y bytes maxL ret ws rm 0 0 n)
    (hv : ∃ cell : Cell, H[b]? = some cell ∧ cell.vm.isStatics = false ∧ s.vm.findClass C = some cell.cls) (hn : As.length = n) (hls : ls.size = nL) (hst : st = As.reverse ++ .ref b :: rest) (hrm : (rest.map fun v => v.category).sum ≤ 8) (hdg : decode cc pc = .ok (.invokevirtual index, 3)) (hf : cells + 0 ≤ R.cells ∧ slots + 0 ≤ R.slots)
    (kk : ∀ (u : S) (H1 : Heap) (locs1 : List Loc), K u → ll_X D wd A H0 H1 locs1 u → W p l e R s m args below meth c H1 locs1 cells slots Q (F0 m (pc + 3) ls rest)) : W p l e R s m args below meth c H locs cells slots Q (F0 m pc ls st) := by
  subst hst
  have hF := ll_F hA hX
  refine va_callv (va_runV (As := As) (rest := rest) cx.1 (hM H.size) cw ⟨ll_blind, hv, fun U hU hW => ⟨rfl, by rw [hU], by rw [hU]; exact hX.1, va_K.moved hW.alike cx.2, ⟨hX.2.1.1, fun _ _ _ => trivial⟩⟩⟩ rfl hn hls rfl (lv_room hrm) hdg hf) hX.2.2 (fun q _ h => hF q h) hF (fun u t H1 locs1 ht hvm hw hB hz1 hk1 hS1 => ?_)
  obtain ⟨hP1, hK1, hD1⟩ := hB
  rw [ht] at hP1
  exact kk u H1 locs1 hw ⟨hP1, hD1.weaken (fun _ q _ h => hF q.1 h), hS1⟩
theorem ll_callsi {K : Int32 → S → Prop} (cx : ll_C p m c cc nL s args own D tys) (hA : ∀ q, H0.size ≤ q → A q) (hX : ll_X D wd A H0 H locs f) (hM : ll_Mi l y ws rm D tys wd As f K) (cw : CallB R s args own index y bytes maxL ret ws rm 0 0 n ∧ (Cond.static y).before args s = true)
    (hn : As.length = n) (hls : ls.size = nL) (hst : st = As.reverse ++ rest) (hrm : (rest.map fun v => v.category).sum ≤ 8) (hdg : decode cc pc = .ok (.invokestatic index, 3)) (hf : cells + 0 ≤ R.cells ∧ slots + 0 ≤ R.slots)
    (kk : ∀ (r : Int32) (u : S) (H1 : Heap) (locs1 : List Loc), K r u → ll_X D wd A H0 H1 locs1 u → W p l e R s m args below meth c H1 locs1 cells slots Q (F0 m (pc + 3) ls (.int r :: rest))) : W p l e R s m args below meth c H locs cells slots Q (F0 m pc ls st) := by
  subst hst
  have hF := ll_F hA hX
  refine va_calli (va_runS (As := As) (rest := rest) cx.1 (hM H.size) cw ⟨ll_blind, fun U hU hW => ⟨rfl, by rw [hU], by rw [hU]; exact hX.1, va_K.moved hW.alike cx.2, ⟨hX.2.1.1, fun _ _ _ => trivial⟩⟩⟩ rfl hn hls rfl (lv_room hrm) hdg hf) hX.2.2 (fun q _ h => hF q h) hF (fun r u t H1 locs1 ht hvm hw hB hz1 hk1 hS1 => ?_)
  obtain ⟨hP1, hK1, hD1⟩ := hB
  rw [ht] at hP1
  exact kk r u H1 locs1 hw ⟨hP1, hD1.weaken (fun _ q _ h => hF q.1 h), hS1⟩
end LLR
/-- a world of two parts, the first one a callee's: behind the call the other part stands first, unchanged -/
theorem ll_frame {A0 : Nat → Prop} {D : va_G} {cl : List vw_C} {wc fr w1 : va_W} {H H1 : Heap} (hP : va_P D cl (wc ++ fr) H) (hD : va_D A0 (wc ++ fr))
    (hk : ∀ q : Nat, q < H.size → ¬ va_A wc H.size q → H1[q]? = H[q]?) (hF : ∀ q, va_A wc H.size q → A0 q) (hP1 : va_P D cl w1 H1) (hD1 : va_D (va_A wc H.size) w1) : va_P D cl (fr ++ w1) H1 ∧ va_D A0 (fr ++ w1) := by
  have inr' : ∀ (k : Nat) (q : Nat × va_E), fr[k]? = some q → (wc ++ fr)[wc.length + k]? = some q := fun k q h => by
    rw [List.getElem?_append_right (by omega)]
    simpa using h
  have inl' : ∀ (k : Nat) (q : Nat × va_E), wc[k]? = some q → k < wc.length ∧ (wc ++ fr)[k]? = some q := fun k q h => by
    have hl := (List.getElem?_eq_some_iff.mp h).1
    exact ⟨hl, by rw [List.getElem?_append_left hl]; exact h⟩
  have apart : ∀ (k : Nat) (q : Nat × va_E), fr[k]? = some q → q.1 < H.size ∧ ¬ va_A wc H.size q.1 := by
    intro k q hq
    have h2 := inr' k q hq
    have hl := (hP _ q h2).lt
    refine ⟨hl, fun h => ?_⟩
    rcases h with ⟨j, e, h⟩ | h
    · obtain ⟨hj, h4⟩ := inl' j (q.1, e) h
      have hij := hD.1 _ _ q (q.1, e) h2 h4 rfl
      omega
    · omega
  refine ⟨va_P.app (fun k q hq => ?_) hP1, va_D.app ⟨fun i j x y hi hj hxy => ?_, fun k q hq => hD.2 _ q (inr' k q hq)⟩ (hD1.weaken (fun k q _ h => hF q.1 h)) (fun i j x y hx hy hxy => ?_)⟩
  · obtain ⟨g1, g2⟩ := apart k q hq
    exact (hP _ q (inr' k q hq)).kept (hk q.1 g1 g2)
  · have := hD.1 _ _ x y (inr' i x hi) (inr' j y hj) hxy
    omega
  · exact (apart i x hx).2 (by rw [hxy]; exact hD1.2 j y hy)
theorem ll_P_left {D : va_G} {cl : List vw_C} {w1 w2 : va_W} {H : Heap} (h : va_P D cl (w1 ++ w2) H) : va_P D cl w1 H := fun k q hq => by
  have hl := (List.getElem?_eq_some_iff.mp hq).1
  exact h k q (by rw [List.getElem?_append_left hl]; exact hq)
theorem ll_D_left {A : Nat → Prop} {w1 w2 : va_W} (h : va_D A (w1 ++ w2)) : va_D A w1 := by
  have key : ∀ (k : Nat) (q : Nat × va_E), w1[k]? = some q → (w1 ++ w2)[k]? = some q := fun k q hq => by
    have hl := (List.getElem?_eq_some_iff.mp hq).1
    rw [List.getElem?_append_left hl]; exact hq
  exact ⟨fun i j x y hi hj hxy => h.1 i j x y (key i x hi) (key j y hj) hxy, fun k q hk => h.2 k q (key k q hk)⟩
section LLF
variable {p : Program} {l : Launch} {e : Env} {R : Room} {s : State} {m : MethodId} {args : Array Value} {below : List Frame} {meth : Method} {c : Code} {H : Heap} {locs : List Loc} {cells slots : Nat} {Q : State → Prop}
variable {S : Type} {cc bytes : ByteArray} {nL maxL index n pc : Nat} {own C : String} {D : va_G} {tys : List (ClassId × FieldType)} {wd : S → va_W} {fr : va_W} {f u : S} {A : Nat → Prop} {H0 : Heap} {ls : Array Slot} {rest st As : List Value} {y : MethodName} {ws : List Cond} {rm : Room} {ret : Option FieldType} {b : Nat}
theorem ll_callF {K : Int32 → S → Prop} (cx : ll_C p m c cc nL s args own D tys) (hA : ∀ q, H0.size ≤ q → A q) (hP : va_P D vwCl (wd f ++ fr) H) (hD : va_D A (wd f ++ fr)) (hS : va_S A H0 H locs) (hM : ll_Mi l y ws rm D tys wd (.ref b :: As) f K) (cw : CallW R s args own C index y bytes maxL ret ws rm 0 0 n)
    (hv : ∃ cell : Cell, H[b]? = some cell ∧ cell.vm.isStatics = false ∧ s.vm.findClass C = some cell.cls) (hn : As.length = n) (hls : ls.size = nL) (hst : st = As.reverse ++ .ref b :: rest) (hrm : (rest.map fun v => v.category).sum ≤ 8) (hdg : decode cc pc = .ok (.invokevirtual index, 3)) (hf : cells + 0 ≤ R.cells ∧ slots + 0 ≤ R.slots)
    (kk : ∀ (r : Int32) (u : S) (H1 : Heap) (locs1 : List Loc), K r u → va_P D vwCl (fr ++ wd u) H1 → va_D A (fr ++ wd u) → va_S A H0 H1 locs1 → W p l e R s m args below meth c H1 locs1 cells slots Q (F0 m (pc + 3) ls (.int r :: rest))) : W p l e R s m args below meth c H locs cells slots Q (F0 m pc ls st) := by
  subst hst
  have hPl := ll_P_left hP
  have hDl := ll_D_left hD
  have hF := ll_F (wd := wd) hA ⟨hPl, hDl, hS⟩
  refine va_calli (va_runV (As := As) (rest := rest) cx.1 (hM H.size) cw ⟨ll_blind, hv, fun U hU hW => ⟨rfl, by rw [hU], by rw [hU]; exact hPl, va_K.moved hW.alike cx.2, ⟨hDl.1, fun _ _ _ => trivial⟩⟩⟩ rfl hn hls rfl (lv_room hrm) hdg hf) hS (fun q _ h => hF q h) hF (fun r u t H1 locs1 ht hvm hw hB hz1 hk1 hS1 => ?_)
  obtain ⟨hP1, hK1, hD1⟩ := hB
  rw [ht] at hP1
  obtain ⟨hP2, hD2⟩ := ll_frame hP hD hk1 hF hP1 hD1
  exact kk r u H1 locs1 hw hP2 hD2 hS1
end LLF
