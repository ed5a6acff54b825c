theorem ll_lawi {L i : Nat} (hL : L ≤ 2560) (hi : i ≤ L + 5) (c : ¬ (Int32.ofNat L - 5) < nI i) : i + 5 ≤ L := by
  have e : (Int32.ofNat L - 5).toInt = (L : Int) - (5 : Nat) := pk_sub_toInt (a := L) (b := 5) (by omega) (by omega)
  rw [Int32.lt_iff_toInt_lt, e, nI_toInt (by omega)] at c
  omega
set_option maxHeartbeats 8000000 in
set_option maxRecDepth 100000 in
theorem law_loop {p : Program} {l : Launch} {e : Env} {s : State} {m : MethodId} {below : List Frame} {meth : Method} {c : Code} {D : va_G} {h h' : Nat → Nat} {cI cZ : ClassId} {b L : Nat} {xs : Nat → Int32} (hL : L ≤ 2560) (C0 : lw_At p s m meth c b L xs) (hK : va_K D vwCl [(cI, .int), (cZ, .boolean)] s) :
    ∀ (n i : Nat), i ≤ L + 5 → L + 6 ≤ i + n → ∀ (f g : ll_S), ll_Sim f g → ∀ (H : Heap) (locs : List Loc), va_P D vwCl (wd_X h cI cZ f ++ wd_M h' cI cZ g) H → va_D (fun q : Nat => s.heap.size ≤ q) (wd_X h cI cZ f ++ wd_M h' cI cZ g) → va_S (fun q : Nat => s.heap.size ≤ q) s.heap H locs → ∀ (ls : Array Slot), lv_has ls 4 [(0, .ref b), (1, .ref (h 0)), (2, .ref (h' 0)), (3, .int (nI i))] → W p l e room_1 s m #[Value.ref b] below meth c H locs 42 1919 (lw_Z below #[Value.ref b] s) (F0 m 18 ls []) := by
  obtain ⟨hx, hb, hr, hml, hown, hts0, hX, hbl, hlocks, hgv⟩ := C0
  have hA : ∀ q : Nat, s.heap.size ≤ q → (fun q : Nat => s.heap.size ≤ q) q := fun _ h => h
  have hbA : ¬ (fun q : Nat => s.heap.size ≤ q) b := Nat.not_le.mpr hbl
  have hts : ∀ w ∈ ll_xt, w.before #[Value.ref b] s = true := fun w h => hts0 w (List.mem_filter.mp h).1
  have cx : ll_C p m c code 4 s #[Value.ref b] "LoaderLabLaw" D [(cI, .int), (cZ, .boolean)] := ⟨⟨hx, hb, hml, hown, hts⟩, hK⟩
  intro n
  induction n with
  | zero =>
    intro i h1 h2
    exact absurd h2 (by omega)
  | succ n ih =>
    intro i hi hin f g hSim H locs hP hD hS ls hl
    refine lv_iload_n hx hb d_Lw_law_18 rfl (lv_at hl 3 rfl) ?_
    refine lv_aload_n hx hb d_Lw_law_19 rfl (lv_at hl 0 rfl) ?_
    refine va_slen hx hb hX hbl hbA hS d_Lw_law_20 ?_
    refine lv_iconst (v := 5) hx hb d_Lw_law_21 (by decide) ?_
    refine lv_isub hx hb d_Lw_law_22 ?_
    refine lv_icmp_gt (tgt := 639) hx hb d_Lw_law_23 (by decide) (fun c1 => ?_) (fun c1 => ?_)
    · refine lv_iconst (v := 1) hx hb d_Lw_law_639 (by decide) ?_
      refine va_forget (fun q hq => hS.2.2 q hq) ?_
      refine W.widen (k := 600000) (n := 7302250) (by decide) (by decide) ?_
      exact lw_ret hx hb hr hlocks d_Lw_law_640
    have hi5 : i + 5 ≤ L := ll_lawi hL hi c1
    have v0 : vp_in (nI i) L := vp_in_nI (by omega) (by omega)
    have v1 : vp_in (nI i + 1) L := by rw [show nI i + 1 = nI (i + 1) from nI_add i 1]; exact vp_in_nI (by omega) (by omega)
    have v2 : vp_in (nI i + 2) L := by rw [show nI i + 2 = nI (i + 2) from nI_add i 2]; exact vp_in_nI (by omega) (by omega)
    have v3 : vp_in (nI i + 3) L := by rw [show nI i + 3 = nI (i + 3) from nI_add i 3]; exact vp_in_nI (by omega) (by omega)
    have v4 : vp_in (nI i + 4) L := by rw [show nI i + 4 = nI (i + 4) from nI_add i 4]; exact vp_in_nI (by omega) (by omega)
    have nxt : ∀ (f g : ll_S), ll_Sim f g → ∀ (H : Heap) (locs : List Loc), va_P D vwCl (wd_X h cI cZ f ++ wd_M h' cI cZ g) H → va_D (fun q : Nat => s.heap.size ≤ q) (wd_X h cI cZ f ++ wd_M h' cI cZ g) → va_S (fun q : Nat => s.heap.size ≤ q) s.heap H locs → W p l e room_1 s m #[Value.ref b] below meth c H locs 42 1919 (lw_Z below #[Value.ref b] s) (F0 m 633 ls []) := by
      intro f g hSim H locs hP hD hS
      refine lv_iinc (v := nI i + 5) (lv' := [(3, .int (nI i + 5)), (0, .ref b), (1, .ref (h 0)), (2, .ref (h' 0))]) hx hb d_Lw_law_633 hl (k := 3) rfl rfl (by decide) rfl (fun ls hl => ?_)
      refine lv_goto (tgt := 18) hx hb d_Lw_law_636 (by decide) ?_
      rw [show nI i + 5 = nI (i + 5) from nI_add i 5] at hl
      exact ih (i + 5) (by omega) (by omega) f g hSim H locs hP hD hS ls (lv_sub hl [1, 2, 3, 0] rfl)
    refine lv_aload_n hx hb d_Lw_law_26 rfl (lv_at hl 0 rfl) ?_
    refine lv_iload_n hx hb d_Lw_law_27 rfl (lv_at hl 3 rfl) ?_
    refine va_sld hx hb hX hbl hbA hS v0 d_Lw_law_28 ?_
    refine lv_bipush (v := 15) hx hb d_Lw_law_29 (by decide) ?_
    refine lv_iand hx hb d_Lw_law_31 ?_
    generalize xs (nI i).toNatClampNeg &&& 15 = x0
    by_cases w0 : x0 = 0
    · refine lv_tableIn (tgt := 108) hx hb d_Lw_law_32 (by rw [w0]; decide) (by rw [w0]; decide) (by rw [w0]; rfl) (by decide) ?_
      refine lv_aload_n hx hb d_Lw_law_108 rfl (lv_at hl 1 rfl) ?_
      refine lv_aload_n hx hb d_Lw_law_109 rfl (lv_at hl 0 rfl) ?_
      refine lv_iload_n hx hb d_Lw_law_110 rfl (lv_at hl 3 rfl) ?_
      refine lv_iconst (v := 1) hx hb d_Lw_law_111 (by decide) ?_
      refine lv_iadd hx hb d_Lw_law_112 ?_
      refine va_sld hx hb hX hbl hbA hS v1 d_Lw_law_113 ?_
      refine lv_aload_n hx hb d_Lw_law_114 rfl (lv_at hl 0 rfl) ?_
      refine lv_iload_n hx hb d_Lw_law_115 rfl (lv_at hl 3 rfl) ?_
      refine lv_iconst (v := 2) hx hb d_Lw_law_116 (by decide) ?_
      refine lv_iadd hx hb d_Lw_law_117 ?_
      refine va_sld hx hb hX hbl hbA hS v2 d_Lw_law_118 ?_
      refine ll_callF (wd := wd_X h cI cZ) (fr := wd_M h' cI cZ g) cx hA hP hD hS (c_La_parent l D h cI cZ _ _ _ _ (sm_parent hSim _ _)) (cw_Lw_13 hts ⟨Nat.le_of_ble_eq_true rfl, Nat.le_of_ble_eq_true rfl⟩) (va_recv hK hP (ci := 0) (q0 := 0) rfl rfl) rfl hl.1 rfl (Nat.le_of_ble_eq_true rfl) d_Lw_law_119 ⟨Nat.le_of_ble_eq_true rfl, Nat.le_of_ble_eq_true rfl⟩ (fun r f1 H locs hG hP hD hS => ?_)
      refine lv_aload_n hx hb d_Lw_law_122 rfl (lv_at hl 2 rfl) ?_
      refine lv_aload_n hx hb d_Lw_law_123 rfl (lv_at hl 0 rfl) ?_
      refine lv_iload_n hx hb d_Lw_law_124 rfl (lv_at hl 3 rfl) ?_
      refine lv_iconst (v := 1) hx hb d_Lw_law_125 (by decide) ?_
      refine lv_iadd hx hb d_Lw_law_126 ?_
      refine va_sld hx hb hX hbl hbA hS v1 d_Lw_law_127 ?_
      refine lv_aload_n hx hb d_Lw_law_128 rfl (lv_at hl 0 rfl) ?_
      refine lv_iload_n hx hb d_Lw_law_129 rfl (lv_at hl 3 rfl) ?_
      refine lv_iconst (v := 2) hx hb d_Lw_law_130 (by decide) ?_
      refine lv_iadd hx hb d_Lw_law_131 ?_
      refine va_sld hx hb hX hbl hbA hS v2 d_Lw_law_132 ?_
      refine ll_callF (wd := wd_M h' cI cZ) (fr := wd_X h cI cZ f1) cx hA hP hD hS (c_Lm_parent l D h' cI cZ _ _ _ _ hG) (cw_Lw_17 hts ⟨Nat.le_of_ble_eq_true rfl, Nat.le_of_ble_eq_true rfl⟩) (va_recv hK hP (ci := 3) (q0 := 0) rfl rfl) rfl hl.1 rfl (Nat.le_of_ble_eq_true rfl) d_Lw_law_133 ⟨Nat.le_of_ble_eq_true rfl, Nat.le_of_ble_eq_true rfl⟩ (fun r' g1 H locs hG hP hD hS => ?_)
      refine lv_icmp_eq (tgt := 633) hx hb d_Lw_law_136 (by decide) (fun c2 => ?_) (fun c2 => ?_)
      · exact nxt f1 g1 hG.2 H locs hP hD hS
      · exact absurd hG.1 c2
    by_cases w1 : x0 = 1
    · refine lv_tableIn (tgt := 141) hx hb d_Lw_law_32 (by rw [w1]; decide) (by rw [w1]; decide) (by rw [w1]; rfl) (by decide) ?_
      refine lv_aload_n hx hb d_Lw_law_141 rfl (lv_at hl 1 rfl) ?_
      refine lv_aload_n hx hb d_Lw_law_142 rfl (lv_at hl 0 rfl) ?_
      refine lv_iload_n hx hb d_Lw_law_143 rfl (lv_at hl 3 rfl) ?_
      refine lv_iconst (v := 1) hx hb d_Lw_law_144 (by decide) ?_
      refine lv_iadd hx hb d_Lw_law_145 ?_
      refine va_sld hx hb hX hbl hbA hS v1 d_Lw_law_146 ?_
      refine lv_aload_n hx hb d_Lw_law_147 rfl (lv_at hl 0 rfl) ?_
      refine lv_iload_n hx hb d_Lw_law_148 rfl (lv_at hl 3 rfl) ?_
      refine lv_iconst (v := 2) hx hb d_Lw_law_149 (by decide) ?_
      refine lv_iadd hx hb d_Lw_law_150 ?_
      refine va_sld hx hb hX hbl hbA hS v2 d_Lw_law_151 ?_
      refine lv_aload_n hx hb d_Lw_law_152 rfl (lv_at hl 0 rfl) ?_
      refine lv_iload_n hx hb d_Lw_law_153 rfl (lv_at hl 3 rfl) ?_
      refine lv_iconst (v := 3) hx hb d_Lw_law_154 (by decide) ?_
      refine lv_iadd hx hb d_Lw_law_155 ?_
      refine va_sld hx hb hX hbl hbA hS v3 d_Lw_law_156 ?_
      refine lv_aload_n hx hb d_Lw_law_157 rfl (lv_at hl 0 rfl) ?_
      refine lv_iload_n hx hb d_Lw_law_158 rfl (lv_at hl 3 rfl) ?_
      refine lv_iconst (v := 4) hx hb d_Lw_law_159 (by decide) ?_
      refine lv_iadd hx hb d_Lw_law_160 ?_
      refine va_sld hx hb hX hbl hbA hS v4 d_Lw_law_161 ?_
      refine ll_callF (wd := wd_X h cI cZ) (fr := wd_M h' cI cZ g) cx hA hP hD hS (c_La_file l D h cI cZ _ _ _ _ _ _ (sm_file hSim _ _ _ _)) (cw_Lw_18 hts ⟨Nat.le_of_ble_eq_true rfl, Nat.le_of_ble_eq_true rfl⟩) (va_recv hK hP (ci := 0) (q0 := 0) rfl rfl) rfl hl.1 rfl (Nat.le_of_ble_eq_true rfl) d_Lw_law_162 ⟨Nat.le_of_ble_eq_true rfl, Nat.le_of_ble_eq_true rfl⟩ (fun r f1 H locs hG hP hD hS => ?_)
      refine lv_aload_n hx hb d_Lw_law_165 rfl (lv_at hl 2 rfl) ?_
      refine lv_aload_n hx hb d_Lw_law_166 rfl (lv_at hl 0 rfl) ?_
      refine lv_iload_n hx hb d_Lw_law_167 rfl (lv_at hl 3 rfl) ?_
      refine lv_iconst (v := 1) hx hb d_Lw_law_168 (by decide) ?_
      refine lv_iadd hx hb d_Lw_law_169 ?_
      refine va_sld hx hb hX hbl hbA hS v1 d_Lw_law_170 ?_
      refine lv_aload_n hx hb d_Lw_law_171 rfl (lv_at hl 0 rfl) ?_
      refine lv_iload_n hx hb d_Lw_law_172 rfl (lv_at hl 3 rfl) ?_
      refine lv_iconst (v := 2) hx hb d_Lw_law_173 (by decide) ?_
      refine lv_iadd hx hb d_Lw_law_174 ?_
      refine va_sld hx hb hX hbl hbA hS v2 d_Lw_law_175 ?_
      refine lv_aload_n hx hb d_Lw_law_176 rfl (lv_at hl 0 rfl) ?_
      refine lv_iload_n hx hb d_Lw_law_177 rfl (lv_at hl 3 rfl) ?_
      refine lv_iconst (v := 3) hx hb d_Lw_law_178 (by decide) ?_
      refine lv_iadd hx hb d_Lw_law_179 ?_
      refine va_sld hx hb hX hbl hbA hS v3 d_Lw_law_180 ?_
      refine lv_aload_n hx hb d_Lw_law_181 rfl (lv_at hl 0 rfl) ?_
      refine lv_iload_n hx hb d_Lw_law_182 rfl (lv_at hl 3 rfl) ?_
      refine lv_iconst (v := 4) hx hb d_Lw_law_183 (by decide) ?_
      refine lv_iadd hx hb d_Lw_law_184 ?_
      refine va_sld hx hb hX hbl hbA hS v4 d_Lw_law_185 ?_
      refine ll_callF (wd := wd_M h' cI cZ) (fr := wd_X h cI cZ f1) cx hA hP hD hS (c_Lm_file l D h' cI cZ _ _ _ _ _ _ hG) (cw_Lw_22 hts ⟨Nat.le_of_ble_eq_true rfl, Nat.le_of_ble_eq_true rfl⟩) (va_recv hK hP (ci := 3) (q0 := 0) rfl rfl) rfl hl.1 rfl (Nat.le_of_ble_eq_true rfl) d_Lw_law_186 ⟨Nat.le_of_ble_eq_true rfl, Nat.le_of_ble_eq_true rfl⟩ (fun r' g1 H locs hG hP hD hS => ?_)
      refine lv_icmp_eq (tgt := 633) hx hb d_Lw_law_189 (by decide) (fun c2 => ?_) (fun c2 => ?_)
      · exact nxt f1 g1 hG.2 H locs hP hD hS
      · exact absurd hG.1 c2
    by_cases w2 : x0 = 2
    · refine lv_tableIn (tgt := 194) hx hb d_Lw_law_32 (by rw [w2]; decide) (by rw [w2]; decide) (by rw [w2]; rfl) (by decide) ?_
      refine lv_aload_n hx hb d_Lw_law_194 rfl (lv_at hl 1 rfl) ?_
      refine lv_aload_n hx hb d_Lw_law_195 rfl (lv_at hl 0 rfl) ?_
      refine lv_iload_n hx hb d_Lw_law_196 rfl (lv_at hl 3 rfl) ?_
      refine lv_iconst (v := 1) hx hb d_Lw_law_197 (by decide) ?_
      refine lv_iadd hx hb d_Lw_law_198 ?_
      refine va_sld hx hb hX hbl hbA hS v1 d_Lw_law_199 ?_
      refine lv_aload_n hx hb d_Lw_law_200 rfl (lv_at hl 0 rfl) ?_
      refine lv_iload_n hx hb d_Lw_law_201 rfl (lv_at hl 3 rfl) ?_
      refine lv_iconst (v := 2) hx hb d_Lw_law_202 (by decide) ?_
      refine lv_iadd hx hb d_Lw_law_203 ?_
      refine va_sld hx hb hX hbl hbA hS v2 d_Lw_law_204 ?_
      refine ll_callF (wd := wd_X h cI cZ) (fr := wd_M h' cI cZ g) cx hA hP hD hS (c_La_noFile l D h cI cZ _ _ _ _ (sm_noFile hSim _ _)) (cw_Lw_23 hts ⟨Nat.le_of_ble_eq_true rfl, Nat.le_of_ble_eq_true rfl⟩) (va_recv hK hP (ci := 0) (q0 := 0) rfl rfl) rfl hl.1 rfl (Nat.le_of_ble_eq_true rfl) d_Lw_law_205 ⟨Nat.le_of_ble_eq_true rfl, Nat.le_of_ble_eq_true rfl⟩ (fun r f1 H locs hG hP hD hS => ?_)
      refine lv_aload_n hx hb d_Lw_law_208 rfl (lv_at hl 2 rfl) ?_
      refine lv_aload_n hx hb d_Lw_law_209 rfl (lv_at hl 0 rfl) ?_
      refine lv_iload_n hx hb d_Lw_law_210 rfl (lv_at hl 3 rfl) ?_
      refine lv_iconst (v := 1) hx hb d_Lw_law_211 (by decide) ?_
      refine lv_iadd hx hb d_Lw_law_212 ?_
      refine va_sld hx hb hX hbl hbA hS v1 d_Lw_law_213 ?_
      refine lv_aload_n hx hb d_Lw_law_214 rfl (lv_at hl 0 rfl) ?_
      refine lv_iload_n hx hb d_Lw_law_215 rfl (lv_at hl 3 rfl) ?_
      refine lv_iconst (v := 2) hx hb d_Lw_law_216 (by decide) ?_
      refine lv_iadd hx hb d_Lw_law_217 ?_
      refine va_sld hx hb hX hbl hbA hS v2 d_Lw_law_218 ?_
      refine ll_callF (wd := wd_M h' cI cZ) (fr := wd_X h cI cZ f1) cx hA hP hD hS (c_Lm_noFile l D h' cI cZ _ _ _ _ hG) (cw_Lw_26 hts ⟨Nat.le_of_ble_eq_true rfl, Nat.le_of_ble_eq_true rfl⟩) (va_recv hK hP (ci := 3) (q0 := 0) rfl rfl) rfl hl.1 rfl (Nat.le_of_ble_eq_true rfl) d_Lw_law_219 ⟨Nat.le_of_ble_eq_true rfl, Nat.le_of_ble_eq_true rfl⟩ (fun r' g1 H locs hG hP hD hS => ?_)
      refine lv_icmp_eq (tgt := 633) hx hb d_Lw_law_222 (by decide) (fun c2 => ?_) (fun c2 => ?_)
      · exact nxt f1 g1 hG.2 H locs hP hD hS
      · exact absurd hG.1 c2
    by_cases w3 : x0 = 3
    · refine lv_tableIn (tgt := 227) hx hb d_Lw_law_32 (by rw [w3]; decide) (by rw [w3]; decide) (by rw [w3]; rfl) (by decide) ?_
      refine lv_aload_n hx hb d_Lw_law_227 rfl (lv_at hl 1 rfl) ?_
      refine lv_aload_n hx hb d_Lw_law_228 rfl (lv_at hl 0 rfl) ?_
      refine lv_iload_n hx hb d_Lw_law_229 rfl (lv_at hl 3 rfl) ?_
      refine lv_iconst (v := 1) hx hb d_Lw_law_230 (by decide) ?_
      refine lv_iadd hx hb d_Lw_law_231 ?_
      refine va_sld hx hb hX hbl hbA hS v1 d_Lw_law_232 ?_
      refine lv_aload_n hx hb d_Lw_law_233 rfl (lv_at hl 0 rfl) ?_
      refine lv_iload_n hx hb d_Lw_law_234 rfl (lv_at hl 3 rfl) ?_
      refine lv_iconst (v := 2) hx hb d_Lw_law_235 (by decide) ?_
      refine lv_iadd hx hb d_Lw_law_236 ?_
      refine va_sld hx hb hX hbl hbA hS v2 d_Lw_law_237 ?_
      refine lv_aload_n hx hb d_Lw_law_238 rfl (lv_at hl 0 rfl) ?_
      refine lv_iload_n hx hb d_Lw_law_239 rfl (lv_at hl 3 rfl) ?_
      refine lv_iconst (v := 3) hx hb d_Lw_law_240 (by decide) ?_
      refine lv_iadd hx hb d_Lw_law_241 ?_
      refine va_sld hx hb hX hbl hbA hS v3 d_Lw_law_242 ?_
      refine lv_aload_n hx hb d_Lw_law_243 rfl (lv_at hl 0 rfl) ?_
      refine lv_iload_n hx hb d_Lw_law_244 rfl (lv_at hl 3 rfl) ?_
      refine lv_iconst (v := 4) hx hb d_Lw_law_245 (by decide) ?_
      refine lv_iadd hx hb d_Lw_law_246 ?_
      refine va_sld hx hb hX hbl hbA hS v4 d_Lw_law_247 ?_
      refine ll_callF (wd := wd_X h cI cZ) (fr := wd_M h' cI cZ g) cx hA hP hD hS (c_La_script l D h cI cZ _ _ _ _ _ _ (sm_script hSim _ _ _ _)) (cw_Lw_27 hts ⟨Nat.le_of_ble_eq_true rfl, Nat.le_of_ble_eq_true rfl⟩) (va_recv hK hP (ci := 0) (q0 := 0) rfl rfl) rfl hl.1 rfl (Nat.le_of_ble_eq_true rfl) d_Lw_law_248 ⟨Nat.le_of_ble_eq_true rfl, Nat.le_of_ble_eq_true rfl⟩ (fun r f1 H locs hG hP hD hS => ?_)
      refine lv_aload_n hx hb d_Lw_law_251 rfl (lv_at hl 2 rfl) ?_
      refine lv_aload_n hx hb d_Lw_law_252 rfl (lv_at hl 0 rfl) ?_
      refine lv_iload_n hx hb d_Lw_law_253 rfl (lv_at hl 3 rfl) ?_
      refine lv_iconst (v := 1) hx hb d_Lw_law_254 (by decide) ?_
      refine lv_iadd hx hb d_Lw_law_255 ?_
      refine va_sld hx hb hX hbl hbA hS v1 d_Lw_law_256 ?_
      refine lv_aload_n hx hb d_Lw_law_257 rfl (lv_at hl 0 rfl) ?_
      refine lv_iload_n hx hb d_Lw_law_258 rfl (lv_at hl 3 rfl) ?_
      refine lv_iconst (v := 2) hx hb d_Lw_law_259 (by decide) ?_
      refine lv_iadd hx hb d_Lw_law_260 ?_
      refine va_sld hx hb hX hbl hbA hS v2 d_Lw_law_261 ?_
      refine lv_aload_n hx hb d_Lw_law_262 rfl (lv_at hl 0 rfl) ?_
      refine lv_iload_n hx hb d_Lw_law_263 rfl (lv_at hl 3 rfl) ?_
      refine lv_iconst (v := 3) hx hb d_Lw_law_264 (by decide) ?_
      refine lv_iadd hx hb d_Lw_law_265 ?_
      refine va_sld hx hb hX hbl hbA hS v3 d_Lw_law_266 ?_
      refine lv_aload_n hx hb d_Lw_law_267 rfl (lv_at hl 0 rfl) ?_
      refine lv_iload_n hx hb d_Lw_law_268 rfl (lv_at hl 3 rfl) ?_
      refine lv_iconst (v := 4) hx hb d_Lw_law_269 (by decide) ?_
      refine lv_iadd hx hb d_Lw_law_270 ?_
      refine va_sld hx hb hX hbl hbA hS v4 d_Lw_law_271 ?_
      refine ll_callF (wd := wd_M h' cI cZ) (fr := wd_X h cI cZ f1) cx hA hP hD hS (c_Lm_script l D h' cI cZ _ _ _ _ _ _ hG) (cw_Lw_30 hts ⟨Nat.le_of_ble_eq_true rfl, Nat.le_of_ble_eq_true rfl⟩) (va_recv hK hP (ci := 3) (q0 := 0) rfl rfl) rfl hl.1 rfl (Nat.le_of_ble_eq_true rfl) d_Lw_law_272 ⟨Nat.le_of_ble_eq_true rfl, Nat.le_of_ble_eq_true rfl⟩ (fun r' g1 H locs hG hP hD hS => ?_)
      refine lv_icmp_eq (tgt := 633) hx hb d_Lw_law_275 (by decide) (fun c2 => ?_) (fun c2 => ?_)
      · exact nxt f1 g1 hG.2 H locs hP hD hS
      · exact absurd hG.1 c2
    by_cases w4 : x0 = 4
    · refine lv_tableIn (tgt := 280) hx hb d_Lw_law_32 (by rw [w4]; decide) (by rw [w4]; decide) (by rw [w4]; rfl) (by decide) ?_
      refine lv_aload_n hx hb d_Lw_law_280 rfl (lv_at hl 1 rfl) ?_
      refine lv_aload_n hx hb d_Lw_law_281 rfl (lv_at hl 0 rfl) ?_
      refine lv_iload_n hx hb d_Lw_law_282 rfl (lv_at hl 3 rfl) ?_
      refine lv_iconst (v := 1) hx hb d_Lw_law_283 (by decide) ?_
      refine lv_iadd hx hb d_Lw_law_284 ?_
      refine va_sld hx hb hX hbl hbA hS v1 d_Lw_law_285 ?_
      refine lv_aload_n hx hb d_Lw_law_286 rfl (lv_at hl 0 rfl) ?_
      refine lv_iload_n hx hb d_Lw_law_287 rfl (lv_at hl 3 rfl) ?_
      refine lv_iconst (v := 2) hx hb d_Lw_law_288 (by decide) ?_
      refine lv_iadd hx hb d_Lw_law_289 ?_
      refine va_sld hx hb hX hbl hbA hS v2 d_Lw_law_290 ?_
      refine ll_callF (wd := wd_X h cI cZ) (fr := wd_M h' cI cZ g) cx hA hP hD hS (c_La_load l D h cI cZ _ _ _ _ (sm_load hSim _ _)) (cw_Lw_31 hts ⟨Nat.le_of_ble_eq_true rfl, Nat.le_of_ble_eq_true rfl⟩) (va_recv hK hP (ci := 0) (q0 := 0) rfl rfl) rfl hl.1 rfl (Nat.le_of_ble_eq_true rfl) d_Lw_law_291 ⟨Nat.le_of_ble_eq_true rfl, Nat.le_of_ble_eq_true rfl⟩ (fun r f1 H locs hG hP hD hS => ?_)
      refine lv_aload_n hx hb d_Lw_law_294 rfl (lv_at hl 2 rfl) ?_
      refine lv_aload_n hx hb d_Lw_law_295 rfl (lv_at hl 0 rfl) ?_
      refine lv_iload_n hx hb d_Lw_law_296 rfl (lv_at hl 3 rfl) ?_
      refine lv_iconst (v := 1) hx hb d_Lw_law_297 (by decide) ?_
      refine lv_iadd hx hb d_Lw_law_298 ?_
      refine va_sld hx hb hX hbl hbA hS v1 d_Lw_law_299 ?_
      refine lv_aload_n hx hb d_Lw_law_300 rfl (lv_at hl 0 rfl) ?_
      refine lv_iload_n hx hb d_Lw_law_301 rfl (lv_at hl 3 rfl) ?_
      refine lv_iconst (v := 2) hx hb d_Lw_law_302 (by decide) ?_
      refine lv_iadd hx hb d_Lw_law_303 ?_
      refine va_sld hx hb hX hbl hbA hS v2 d_Lw_law_304 ?_
      refine ll_callF (wd := wd_M h' cI cZ) (fr := wd_X h cI cZ f1) cx hA hP hD hS (c_Lm_load l D h' cI cZ _ _ _ _ hG) (cw_Lw_34 hts ⟨Nat.le_of_ble_eq_true rfl, Nat.le_of_ble_eq_true rfl⟩) (va_recv hK hP (ci := 3) (q0 := 0) rfl rfl) rfl hl.1 rfl (Nat.le_of_ble_eq_true rfl) d_Lw_law_305 ⟨Nat.le_of_ble_eq_true rfl, Nat.le_of_ble_eq_true rfl⟩ (fun r' g1 H locs hG hP hD hS => ?_)
      refine lv_icmp_eq (tgt := 633) hx hb d_Lw_law_308 (by decide) (fun c2 => ?_) (fun c2 => ?_)
      · exact nxt f1 g1 hG.2 H locs hP hD hS
      · exact absurd hG.1 c2
    by_cases w5 : x0 = 5
    · refine lv_tableIn (tgt := 313) hx hb d_Lw_law_32 (by rw [w5]; decide) (by rw [w5]; decide) (by rw [w5]; rfl) (by decide) ?_
      refine lv_aload_n hx hb d_Lw_law_313 rfl (lv_at hl 1 rfl) ?_
      refine lv_aload_n hx hb d_Lw_law_314 rfl (lv_at hl 0 rfl) ?_
      refine lv_iload_n hx hb d_Lw_law_315 rfl (lv_at hl 3 rfl) ?_
      refine lv_iconst (v := 1) hx hb d_Lw_law_316 (by decide) ?_
      refine lv_iadd hx hb d_Lw_law_317 ?_
      refine va_sld hx hb hX hbl hbA hS v1 d_Lw_law_318 ?_
      refine lv_aload_n hx hb d_Lw_law_319 rfl (lv_at hl 0 rfl) ?_
      refine lv_iload_n hx hb d_Lw_law_320 rfl (lv_at hl 3 rfl) ?_
      refine lv_iconst (v := 2) hx hb d_Lw_law_321 (by decide) ?_
      refine lv_iadd hx hb d_Lw_law_322 ?_
      refine va_sld hx hb hX hbl hbA hS v2 d_Lw_law_323 ?_
      refine lv_aload_n hx hb d_Lw_law_324 rfl (lv_at hl 0 rfl) ?_
      refine lv_iload_n hx hb d_Lw_law_325 rfl (lv_at hl 3 rfl) ?_
      refine lv_iconst (v := 3) hx hb d_Lw_law_326 (by decide) ?_
      refine lv_iadd hx hb d_Lw_law_327 ?_
      refine va_sld hx hb hX hbl hbA hS v3 d_Lw_law_328 ?_
      refine ll_callF (wd := wd_X h cI cZ) (fr := wd_M h' cI cZ g) cx hA hP hD hS (c_La_refer l D h cI cZ _ _ _ _ _ (sm_refer hSim _ _ _)) (cw_Lw_35 hts ⟨Nat.le_of_ble_eq_true rfl, Nat.le_of_ble_eq_true rfl⟩) (va_recv hK hP (ci := 0) (q0 := 0) rfl rfl) rfl hl.1 rfl (Nat.le_of_ble_eq_true rfl) d_Lw_law_329 ⟨Nat.le_of_ble_eq_true rfl, Nat.le_of_ble_eq_true rfl⟩ (fun r f1 H locs hG hP hD hS => ?_)
      refine lv_aload_n hx hb d_Lw_law_332 rfl (lv_at hl 2 rfl) ?_
      refine lv_aload_n hx hb d_Lw_law_333 rfl (lv_at hl 0 rfl) ?_
      refine lv_iload_n hx hb d_Lw_law_334 rfl (lv_at hl 3 rfl) ?_
      refine lv_iconst (v := 1) hx hb d_Lw_law_335 (by decide) ?_
      refine lv_iadd hx hb d_Lw_law_336 ?_
      refine va_sld hx hb hX hbl hbA hS v1 d_Lw_law_337 ?_
      refine lv_aload_n hx hb d_Lw_law_338 rfl (lv_at hl 0 rfl) ?_
      refine lv_iload_n hx hb d_Lw_law_339 rfl (lv_at hl 3 rfl) ?_
      refine lv_iconst (v := 2) hx hb d_Lw_law_340 (by decide) ?_
      refine lv_iadd hx hb d_Lw_law_341 ?_
      refine va_sld hx hb hX hbl hbA hS v2 d_Lw_law_342 ?_
      refine lv_aload_n hx hb d_Lw_law_343 rfl (lv_at hl 0 rfl) ?_
      refine lv_iload_n hx hb d_Lw_law_344 rfl (lv_at hl 3 rfl) ?_
      refine lv_iconst (v := 3) hx hb d_Lw_law_345 (by decide) ?_
      refine lv_iadd hx hb d_Lw_law_346 ?_
      refine va_sld hx hb hX hbl hbA hS v3 d_Lw_law_347 ?_
      refine ll_callF (wd := wd_M h' cI cZ) (fr := wd_X h cI cZ f1) cx hA hP hD hS (c_Lm_refer l D h' cI cZ _ _ _ _ _ hG) (cw_Lw_39 hts ⟨Nat.le_of_ble_eq_true rfl, Nat.le_of_ble_eq_true rfl⟩) (va_recv hK hP (ci := 3) (q0 := 0) rfl rfl) rfl hl.1 rfl (Nat.le_of_ble_eq_true rfl) d_Lw_law_348 ⟨Nat.le_of_ble_eq_true rfl, Nat.le_of_ble_eq_true rfl⟩ (fun r' g1 H locs hG hP hD hS => ?_)
      refine lv_icmp_eq (tgt := 633) hx hb d_Lw_law_351 (by decide) (fun c2 => ?_) (fun c2 => ?_)
      · exact nxt f1 g1 hG.2 H locs hP hD hS
      · exact absurd hG.1 c2
    by_cases w6 : x0 = 6
    · refine lv_tableIn (tgt := 356) hx hb d_Lw_law_32 (by rw [w6]; decide) (by rw [w6]; decide) (by rw [w6]; rfl) (by decide) ?_
      refine lv_aload_n hx hb d_Lw_law_356 rfl (lv_at hl 1 rfl) ?_
      refine lv_aload_n hx hb d_Lw_law_357 rfl (lv_at hl 0 rfl) ?_
      refine lv_iload_n hx hb d_Lw_law_358 rfl (lv_at hl 3 rfl) ?_
      refine lv_iconst (v := 1) hx hb d_Lw_law_359 (by decide) ?_
      refine lv_iadd hx hb d_Lw_law_360 ?_
      refine va_sld hx hb hX hbl hbA hS v1 d_Lw_law_361 ?_
      refine lv_aload_n hx hb d_Lw_law_362 rfl (lv_at hl 0 rfl) ?_
      refine lv_iload_n hx hb d_Lw_law_363 rfl (lv_at hl 3 rfl) ?_
      refine lv_iconst (v := 2) hx hb d_Lw_law_364 (by decide) ?_
      refine lv_iadd hx hb d_Lw_law_365 ?_
      refine va_sld hx hb hX hbl hbA hS v2 d_Lw_law_366 ?_
      refine ll_callF (wd := wd_X h cI cZ) (fr := wd_M h' cI cZ g) cx hA hP hD hS (c_La_resolve l D h cI cZ _ _ _ _ (sm_resolve hSim _ _)) (cw_Lw_40 hts ⟨Nat.le_of_ble_eq_true rfl, Nat.le_of_ble_eq_true rfl⟩) (va_recv hK hP (ci := 0) (q0 := 0) rfl rfl) rfl hl.1 rfl (Nat.le_of_ble_eq_true rfl) d_Lw_law_367 ⟨Nat.le_of_ble_eq_true rfl, Nat.le_of_ble_eq_true rfl⟩ (fun r f1 H locs hG hP hD hS => ?_)
      refine lv_aload_n hx hb d_Lw_law_370 rfl (lv_at hl 2 rfl) ?_
      refine lv_aload_n hx hb d_Lw_law_371 rfl (lv_at hl 0 rfl) ?_
      refine lv_iload_n hx hb d_Lw_law_372 rfl (lv_at hl 3 rfl) ?_
      refine lv_iconst (v := 1) hx hb d_Lw_law_373 (by decide) ?_
      refine lv_iadd hx hb d_Lw_law_374 ?_
      refine va_sld hx hb hX hbl hbA hS v1 d_Lw_law_375 ?_
      refine lv_aload_n hx hb d_Lw_law_376 rfl (lv_at hl 0 rfl) ?_
      refine lv_iload_n hx hb d_Lw_law_377 rfl (lv_at hl 3 rfl) ?_
      refine lv_iconst (v := 2) hx hb d_Lw_law_378 (by decide) ?_
      refine lv_iadd hx hb d_Lw_law_379 ?_
      refine va_sld hx hb hX hbl hbA hS v2 d_Lw_law_380 ?_
      refine ll_callF (wd := wd_M h' cI cZ) (fr := wd_X h cI cZ f1) cx hA hP hD hS (c_Lm_resolve l D h' cI cZ _ _ _ _ hG) (cw_Lw_43 hts ⟨Nat.le_of_ble_eq_true rfl, Nat.le_of_ble_eq_true rfl⟩) (va_recv hK hP (ci := 3) (q0 := 0) rfl rfl) rfl hl.1 rfl (Nat.le_of_ble_eq_true rfl) d_Lw_law_381 ⟨Nat.le_of_ble_eq_true rfl, Nat.le_of_ble_eq_true rfl⟩ (fun r' g1 H locs hG hP hD hS => ?_)
      refine lv_icmp_eq (tgt := 633) hx hb d_Lw_law_384 (by decide) (fun c2 => ?_) (fun c2 => ?_)
      · exact nxt f1 g1 hG.2 H locs hP hD hS
      · exact absurd hG.1 c2
    by_cases w7 : x0 = 7
    · refine lv_tableIn (tgt := 389) hx hb d_Lw_law_32 (by rw [w7]; decide) (by rw [w7]; decide) (by rw [w7]; rfl) (by decide) ?_
      refine lv_aload_n hx hb d_Lw_law_389 rfl (lv_at hl 1 rfl) ?_
      refine lv_aload_n hx hb d_Lw_law_390 rfl (lv_at hl 0 rfl) ?_
      refine lv_iload_n hx hb d_Lw_law_391 rfl (lv_at hl 3 rfl) ?_
      refine lv_iconst (v := 1) hx hb d_Lw_law_392 (by decide) ?_
      refine lv_iadd hx hb d_Lw_law_393 ?_
      refine va_sld hx hb hX hbl hbA hS v1 d_Lw_law_394 ?_
      refine lv_aload_n hx hb d_Lw_law_395 rfl (lv_at hl 0 rfl) ?_
      refine lv_iload_n hx hb d_Lw_law_396 rfl (lv_at hl 3 rfl) ?_
      refine lv_iconst (v := 2) hx hb d_Lw_law_397 (by decide) ?_
      refine lv_iadd hx hb d_Lw_law_398 ?_
      refine va_sld hx hb hX hbl hbA hS v2 d_Lw_law_399 ?_
      refine lv_aload_n hx hb d_Lw_law_400 rfl (lv_at hl 0 rfl) ?_
      refine lv_iload_n hx hb d_Lw_law_401 rfl (lv_at hl 3 rfl) ?_
      refine lv_iconst (v := 3) hx hb d_Lw_law_402 (by decide) ?_
      refine lv_iadd hx hb d_Lw_law_403 ?_
      refine va_sld hx hb hX hbl hbA hS v3 d_Lw_law_404 ?_
      refine ll_callF (wd := wd_X h cI cZ) (fr := wd_M h' cI cZ g) cx hA hP hD hS (c_La_constrain l D h cI cZ _ _ _ _ _ (sm_constrain hSim _ _ _)) (cw_Lw_44 hts ⟨Nat.le_of_ble_eq_true rfl, Nat.le_of_ble_eq_true rfl⟩) (va_recv hK hP (ci := 0) (q0 := 0) rfl rfl) rfl hl.1 rfl (Nat.le_of_ble_eq_true rfl) d_Lw_law_405 ⟨Nat.le_of_ble_eq_true rfl, Nat.le_of_ble_eq_true rfl⟩ (fun r f1 H locs hG hP hD hS => ?_)
      refine lv_aload_n hx hb d_Lw_law_408 rfl (lv_at hl 2 rfl) ?_
      refine lv_aload_n hx hb d_Lw_law_409 rfl (lv_at hl 0 rfl) ?_
      refine lv_iload_n hx hb d_Lw_law_410 rfl (lv_at hl 3 rfl) ?_
      refine lv_iconst (v := 1) hx hb d_Lw_law_411 (by decide) ?_
      refine lv_iadd hx hb d_Lw_law_412 ?_
      refine va_sld hx hb hX hbl hbA hS v1 d_Lw_law_413 ?_
      refine lv_aload_n hx hb d_Lw_law_414 rfl (lv_at hl 0 rfl) ?_
      refine lv_iload_n hx hb d_Lw_law_415 rfl (lv_at hl 3 rfl) ?_
      refine lv_iconst (v := 2) hx hb d_Lw_law_416 (by decide) ?_
      refine lv_iadd hx hb d_Lw_law_417 ?_
      refine va_sld hx hb hX hbl hbA hS v2 d_Lw_law_418 ?_
      refine lv_aload_n hx hb d_Lw_law_419 rfl (lv_at hl 0 rfl) ?_
      refine lv_iload_n hx hb d_Lw_law_420 rfl (lv_at hl 3 rfl) ?_
      refine lv_iconst (v := 3) hx hb d_Lw_law_421 (by decide) ?_
      refine lv_iadd hx hb d_Lw_law_422 ?_
      refine va_sld hx hb hX hbl hbA hS v3 d_Lw_law_423 ?_
      refine ll_callF (wd := wd_M h' cI cZ) (fr := wd_X h cI cZ f1) cx hA hP hD hS (c_Lm_constrain l D h' cI cZ _ _ _ _ _ hG) (cw_Lw_47 hts ⟨Nat.le_of_ble_eq_true rfl, Nat.le_of_ble_eq_true rfl⟩) (va_recv hK hP (ci := 3) (q0 := 0) rfl rfl) rfl hl.1 rfl (Nat.le_of_ble_eq_true rfl) d_Lw_law_424 ⟨Nat.le_of_ble_eq_true rfl, Nat.le_of_ble_eq_true rfl⟩ (fun r' g1 H locs hG hP hD hS => ?_)
      refine lv_icmp_eq (tgt := 633) hx hb d_Lw_law_427 (by decide) (fun c2 => ?_) (fun c2 => ?_)
      · exact nxt f1 g1 hG.2 H locs hP hD hS
      · exact absurd hG.1 c2
    by_cases w8 : x0 = 8
    · refine lv_tableIn (tgt := 432) hx hb d_Lw_law_32 (by rw [w8]; decide) (by rw [w8]; decide) (by rw [w8]; rfl) (by decide) ?_
      refine lv_aload_n hx hb d_Lw_law_432 rfl (lv_at hl 1 rfl) ?_
      refine lv_aload_n hx hb d_Lw_law_433 rfl (lv_at hl 0 rfl) ?_
      refine lv_iload_n hx hb d_Lw_law_434 rfl (lv_at hl 3 rfl) ?_
      refine lv_iconst (v := 1) hx hb d_Lw_law_435 (by decide) ?_
      refine lv_iadd hx hb d_Lw_law_436 ?_
      refine va_sld hx hb hX hbl hbA hS v1 d_Lw_law_437 ?_
      refine lv_aload_n hx hb d_Lw_law_438 rfl (lv_at hl 0 rfl) ?_
      refine lv_iload_n hx hb d_Lw_law_439 rfl (lv_at hl 3 rfl) ?_
      refine lv_iconst (v := 2) hx hb d_Lw_law_440 (by decide) ?_
      refine lv_iadd hx hb d_Lw_law_441 ?_
      refine va_sld hx hb hX hbl hbA hS v2 d_Lw_law_442 ?_
      refine lv_aload_n hx hb d_Lw_law_443 rfl (lv_at hl 0 rfl) ?_
      refine lv_iload_n hx hb d_Lw_law_444 rfl (lv_at hl 3 rfl) ?_
      refine lv_iconst (v := 3) hx hb d_Lw_law_445 (by decide) ?_
      refine lv_iadd hx hb d_Lw_law_446 ?_
      refine va_sld hx hb hX hbl hbA hS v3 d_Lw_law_447 ?_
      refine ll_callF (wd := wd_X h cI cZ) (fr := wd_M h' cI cZ g) cx hA hP hD hS (c_La_agree l D h cI cZ _ _ _ _ _ (sm_agree hSim _ _ _)) (cw_Lw_48 hts ⟨Nat.le_of_ble_eq_true rfl, Nat.le_of_ble_eq_true rfl⟩) (va_recv hK hP (ci := 0) (q0 := 0) rfl rfl) rfl hl.1 rfl (Nat.le_of_ble_eq_true rfl) d_Lw_law_448 ⟨Nat.le_of_ble_eq_true rfl, Nat.le_of_ble_eq_true rfl⟩ (fun r f1 H locs hG hP hD hS => ?_)
      refine lv_aload_n hx hb d_Lw_law_451 rfl (lv_at hl 2 rfl) ?_
      refine lv_aload_n hx hb d_Lw_law_452 rfl (lv_at hl 0 rfl) ?_
      refine lv_iload_n hx hb d_Lw_law_453 rfl (lv_at hl 3 rfl) ?_
      refine lv_iconst (v := 1) hx hb d_Lw_law_454 (by decide) ?_
      refine lv_iadd hx hb d_Lw_law_455 ?_
      refine va_sld hx hb hX hbl hbA hS v1 d_Lw_law_456 ?_
      refine lv_aload_n hx hb d_Lw_law_457 rfl (lv_at hl 0 rfl) ?_
      refine lv_iload_n hx hb d_Lw_law_458 rfl (lv_at hl 3 rfl) ?_
      refine lv_iconst (v := 2) hx hb d_Lw_law_459 (by decide) ?_
      refine lv_iadd hx hb d_Lw_law_460 ?_
      refine va_sld hx hb hX hbl hbA hS v2 d_Lw_law_461 ?_
      refine lv_aload_n hx hb d_Lw_law_462 rfl (lv_at hl 0 rfl) ?_
      refine lv_iload_n hx hb d_Lw_law_463 rfl (lv_at hl 3 rfl) ?_
      refine lv_iconst (v := 3) hx hb d_Lw_law_464 (by decide) ?_
      refine lv_iadd hx hb d_Lw_law_465 ?_
      refine va_sld hx hb hX hbl hbA hS v3 d_Lw_law_466 ?_
      refine ll_callF (wd := wd_M h' cI cZ) (fr := wd_X h cI cZ f1) cx hA hP hD hS (c_Lm_agree l D h' cI cZ _ _ _ _ _ hG) (cw_Lw_52 hts ⟨Nat.le_of_ble_eq_true rfl, Nat.le_of_ble_eq_true rfl⟩) (va_recv hK hP (ci := 3) (q0 := 0) rfl rfl) rfl hl.1 rfl (Nat.le_of_ble_eq_true rfl) d_Lw_law_467 ⟨Nat.le_of_ble_eq_true rfl, Nat.le_of_ble_eq_true rfl⟩ (fun r' g1 H locs hG hP hD hS => ?_)
      refine lv_icmp_eq (tgt := 633) hx hb d_Lw_law_470 (by decide) (fun c2 => ?_) (fun c2 => ?_)
      · exact nxt f1 g1 hG.2 H locs hP hD hS
      · exact absurd hG.1 c2
    by_cases w9 : x0 = 9
    · refine lv_tableIn (tgt := 475) hx hb d_Lw_law_32 (by rw [w9]; decide) (by rw [w9]; decide) (by rw [w9]; rfl) (by decide) ?_
      refine lv_aload_n hx hb d_Lw_law_475 rfl (lv_at hl 1 rfl) ?_
      refine lv_aload_n hx hb d_Lw_law_476 rfl (lv_at hl 0 rfl) ?_
      refine lv_iload_n hx hb d_Lw_law_477 rfl (lv_at hl 3 rfl) ?_
      refine lv_iconst (v := 1) hx hb d_Lw_law_478 (by decide) ?_
      refine lv_iadd hx hb d_Lw_law_479 ?_
      refine va_sld hx hb hX hbl hbA hS v1 d_Lw_law_480 ?_
      refine ll_callF (wd := wd_X h cI cZ) (fr := wd_M h' cI cZ g) cx hA hP hD hS (c_La_cause l D h cI cZ _ _ _ (sm_cause hSim _)) (cw_Lw_53 hts ⟨Nat.le_of_ble_eq_true rfl, Nat.le_of_ble_eq_true rfl⟩) (va_recv hK hP (ci := 0) (q0 := 0) rfl rfl) rfl hl.1 rfl (Nat.le_of_ble_eq_true rfl) d_Lw_law_481 ⟨Nat.le_of_ble_eq_true rfl, Nat.le_of_ble_eq_true rfl⟩ (fun r f1 H locs hG hP hD hS => ?_)
      refine lv_aload_n hx hb d_Lw_law_484 rfl (lv_at hl 2 rfl) ?_
      refine lv_aload_n hx hb d_Lw_law_485 rfl (lv_at hl 0 rfl) ?_
      refine lv_iload_n hx hb d_Lw_law_486 rfl (lv_at hl 3 rfl) ?_
      refine lv_iconst (v := 1) hx hb d_Lw_law_487 (by decide) ?_
      refine lv_iadd hx hb d_Lw_law_488 ?_
      refine va_sld hx hb hX hbl hbA hS v1 d_Lw_law_489 ?_
      refine ll_callF (wd := wd_M h' cI cZ) (fr := wd_X h cI cZ f1) cx hA hP hD hS (c_Lm_cause l D h' cI cZ _ _ _ hG) (cw_Lw_57 hts ⟨Nat.le_of_ble_eq_true rfl, Nat.le_of_ble_eq_true rfl⟩) (va_recv hK hP (ci := 3) (q0 := 0) rfl rfl) rfl hl.1 rfl (Nat.le_of_ble_eq_true rfl) d_Lw_law_490 ⟨Nat.le_of_ble_eq_true rfl, Nat.le_of_ble_eq_true rfl⟩ (fun r' g1 H locs hG hP hD hS => ?_)
      refine lv_icmp_eq (tgt := 633) hx hb d_Lw_law_493 (by decide) (fun c2 => ?_) (fun c2 => ?_)
      · exact nxt f1 g1 hG.2 H locs hP hD hS
      · exact absurd hG.1 c2
    by_cases w10 : x0 = 10
    · refine lv_tableIn (tgt := 498) hx hb d_Lw_law_32 (by rw [w10]; decide) (by rw [w10]; decide) (by rw [w10]; rfl) (by decide) ?_
      refine lv_aload_n hx hb d_Lw_law_498 rfl (lv_at hl 1 rfl) ?_
      refine ll_callF (wd := wd_X h cI cZ) (fr := wd_M h' cI cZ g) cx hA hP hD hS (c_La_requests l D h cI cZ _ _ (sm_requests hSim)) (cw_Lw_58 hts ⟨Nat.le_of_ble_eq_true rfl, Nat.le_of_ble_eq_true rfl⟩) (va_recv hK hP (ci := 0) (q0 := 0) rfl rfl) rfl hl.1 rfl (Nat.le_of_ble_eq_true rfl) d_Lw_law_499 ⟨Nat.le_of_ble_eq_true rfl, Nat.le_of_ble_eq_true rfl⟩ (fun r f1 H locs hG hP hD hS => ?_)
      refine lv_aload_n hx hb d_Lw_law_502 rfl (lv_at hl 2 rfl) ?_
      refine ll_callF (wd := wd_M h' cI cZ) (fr := wd_X h cI cZ f1) cx hA hP hD hS (c_Lm_requests l D h' cI cZ _ _ hG) (cw_Lw_62 hts ⟨Nat.le_of_ble_eq_true rfl, Nat.le_of_ble_eq_true rfl⟩) (va_recv hK hP (ci := 3) (q0 := 0) rfl rfl) rfl hl.1 rfl (Nat.le_of_ble_eq_true rfl) d_Lw_law_503 ⟨Nat.le_of_ble_eq_true rfl, Nat.le_of_ble_eq_true rfl⟩ (fun r' g1 H locs hG hP hD hS => ?_)
      refine lv_icmp_eq (tgt := 633) hx hb d_Lw_law_506 (by decide) (fun c2 => ?_) (fun c2 => ?_)
      · exact nxt f1 g1 hG.2 H locs hP hD hS
      · exact absurd hG.1 c2
    by_cases w11 : x0 = 11
    · refine lv_tableIn (tgt := 511) hx hb d_Lw_law_32 (by rw [w11]; decide) (by rw [w11]; decide) (by rw [w11]; rfl) (by decide) ?_
      refine lv_aload_n hx hb d_Lw_law_511 rfl (lv_at hl 1 rfl) ?_
      refine lv_aload_n hx hb d_Lw_law_512 rfl (lv_at hl 0 rfl) ?_
      refine lv_iload_n hx hb d_Lw_law_513 rfl (lv_at hl 3 rfl) ?_
      refine lv_iconst (v := 1) hx hb d_Lw_law_514 (by decide) ?_
      refine lv_iadd hx hb d_Lw_law_515 ?_
      refine va_sld hx hb hX hbl hbA hS v1 d_Lw_law_516 ?_
      refine lv_aload_n hx hb d_Lw_law_517 rfl (lv_at hl 0 rfl) ?_
      refine lv_iload_n hx hb d_Lw_law_518 rfl (lv_at hl 3 rfl) ?_
      refine lv_iconst (v := 2) hx hb d_Lw_law_519 (by decide) ?_
      refine lv_iadd hx hb d_Lw_law_520 ?_
      refine va_sld hx hb hX hbl hbA hS v2 d_Lw_law_521 ?_
      refine ll_callF (wd := wd_X h cI cZ) (fr := wd_M h' cI cZ g) cx hA hP hD hS (c_La_recorded l D h cI cZ _ _ _ _ (sm_recorded hSim _ _)) (cw_Lw_63 hts ⟨Nat.le_of_ble_eq_true rfl, Nat.le_of_ble_eq_true rfl⟩) (va_recv hK hP (ci := 0) (q0 := 0) rfl rfl) rfl hl.1 rfl (Nat.le_of_ble_eq_true rfl) d_Lw_law_522 ⟨Nat.le_of_ble_eq_true rfl, Nat.le_of_ble_eq_true rfl⟩ (fun r f1 H locs hG hP hD hS => ?_)
      refine lv_aload_n hx hb d_Lw_law_525 rfl (lv_at hl 2 rfl) ?_
      refine lv_aload_n hx hb d_Lw_law_526 rfl (lv_at hl 0 rfl) ?_
      refine lv_iload_n hx hb d_Lw_law_527 rfl (lv_at hl 3 rfl) ?_
      refine lv_iconst (v := 1) hx hb d_Lw_law_528 (by decide) ?_
      refine lv_iadd hx hb d_Lw_law_529 ?_
      refine va_sld hx hb hX hbl hbA hS v1 d_Lw_law_530 ?_
      refine lv_aload_n hx hb d_Lw_law_531 rfl (lv_at hl 0 rfl) ?_
      refine lv_iload_n hx hb d_Lw_law_532 rfl (lv_at hl 3 rfl) ?_
      refine lv_iconst (v := 2) hx hb d_Lw_law_533 (by decide) ?_
      refine lv_iadd hx hb d_Lw_law_534 ?_
      refine va_sld hx hb hX hbl hbA hS v2 d_Lw_law_535 ?_
      refine ll_callF (wd := wd_M h' cI cZ) (fr := wd_X h cI cZ f1) cx hA hP hD hS (c_Lm_recorded l D h' cI cZ _ _ _ _ hG) (cw_Lw_66 hts ⟨Nat.le_of_ble_eq_true rfl, Nat.le_of_ble_eq_true rfl⟩) (va_recv hK hP (ci := 3) (q0 := 0) rfl rfl) rfl hl.1 rfl (Nat.le_of_ble_eq_true rfl) d_Lw_law_536 ⟨Nat.le_of_ble_eq_true rfl, Nat.le_of_ble_eq_true rfl⟩ (fun r' g1 H locs hG hP hD hS => ?_)
      refine lv_icmp_eq (tgt := 633) hx hb d_Lw_law_539 (by decide) (fun c2 => ?_) (fun c2 => ?_)
      · exact nxt f1 g1 hG.2 H locs hP hD hS
      · exact absurd hG.1 c2
    by_cases w12 : x0 = 12
    · refine lv_tableIn (tgt := 544) hx hb d_Lw_law_32 (by rw [w12]; decide) (by rw [w12]; decide) (by rw [w12]; rfl) (by decide) ?_
      refine lv_aload_n hx hb d_Lw_law_544 rfl (lv_at hl 1 rfl) ?_
      refine lv_aload_n hx hb d_Lw_law_545 rfl (lv_at hl 0 rfl) ?_
      refine lv_iload_n hx hb d_Lw_law_546 rfl (lv_at hl 3 rfl) ?_
      refine lv_iconst (v := 1) hx hb d_Lw_law_547 (by decide) ?_
      refine lv_iadd hx hb d_Lw_law_548 ?_
      refine va_sld hx hb hX hbl hbA hS v1 d_Lw_law_549 ?_
      refine lv_aload_n hx hb d_Lw_law_550 rfl (lv_at hl 0 rfl) ?_
      refine lv_iload_n hx hb d_Lw_law_551 rfl (lv_at hl 3 rfl) ?_
      refine lv_iconst (v := 2) hx hb d_Lw_law_552 (by decide) ?_
      refine lv_iadd hx hb d_Lw_law_553 ?_
      refine va_sld hx hb hX hbl hbA hS v2 d_Lw_law_554 ?_
      refine ll_callF (wd := wd_X h cI cZ) (fr := wd_M h' cI cZ g) cx hA hP hD hS (c_La_of l D h cI cZ _ _ _ _ (sm_of hSim _ _)) (cw_Lw_67 hts ⟨Nat.le_of_ble_eq_true rfl, Nat.le_of_ble_eq_true rfl⟩) (va_recv hK hP (ci := 0) (q0 := 0) rfl rfl) rfl hl.1 rfl (Nat.le_of_ble_eq_true rfl) d_Lw_law_555 ⟨Nat.le_of_ble_eq_true rfl, Nat.le_of_ble_eq_true rfl⟩ (fun r f1 H locs hG hP hD hS => ?_)
      refine lv_aload_n hx hb d_Lw_law_558 rfl (lv_at hl 2 rfl) ?_
      refine lv_aload_n hx hb d_Lw_law_559 rfl (lv_at hl 0 rfl) ?_
      refine lv_iload_n hx hb d_Lw_law_560 rfl (lv_at hl 3 rfl) ?_
      refine lv_iconst (v := 1) hx hb d_Lw_law_561 (by decide) ?_
      refine lv_iadd hx hb d_Lw_law_562 ?_
      refine va_sld hx hb hX hbl hbA hS v1 d_Lw_law_563 ?_
      refine lv_aload_n hx hb d_Lw_law_564 rfl (lv_at hl 0 rfl) ?_
      refine lv_iload_n hx hb d_Lw_law_565 rfl (lv_at hl 3 rfl) ?_
      refine lv_iconst (v := 2) hx hb d_Lw_law_566 (by decide) ?_
      refine lv_iadd hx hb d_Lw_law_567 ?_
      refine va_sld hx hb hX hbl hbA hS v2 d_Lw_law_568 ?_
      refine ll_callF (wd := wd_M h' cI cZ) (fr := wd_X h cI cZ f1) cx hA hP hD hS (c_Lm_of l D h' cI cZ _ _ _ _ hG) (cw_Lw_70 hts ⟨Nat.le_of_ble_eq_true rfl, Nat.le_of_ble_eq_true rfl⟩) (va_recv hK hP (ci := 3) (q0 := 0) rfl rfl) rfl hl.1 rfl (Nat.le_of_ble_eq_true rfl) d_Lw_law_569 ⟨Nat.le_of_ble_eq_true rfl, Nat.le_of_ble_eq_true rfl⟩ (fun r' g1 H locs hG hP hD hS => ?_)
      refine lv_icmp_eq (tgt := 633) hx hb d_Lw_law_572 (by decide) (fun c2 => ?_) (fun c2 => ?_)
      · exact nxt f1 g1 hG.2 H locs hP hD hS
      · exact absurd hG.1 c2
    by_cases w13 : x0 = 13
    · refine lv_tableIn (tgt := 577) hx hb d_Lw_law_32 (by rw [w13]; decide) (by rw [w13]; decide) (by rw [w13]; rfl) (by decide) ?_
      refine lv_aload_n hx hb d_Lw_law_577 rfl (lv_at hl 1 rfl) ?_
      refine lv_aload_n hx hb d_Lw_law_578 rfl (lv_at hl 0 rfl) ?_
      refine lv_iload_n hx hb d_Lw_law_579 rfl (lv_at hl 3 rfl) ?_
      refine lv_iconst (v := 1) hx hb d_Lw_law_580 (by decide) ?_
      refine lv_iadd hx hb d_Lw_law_581 ?_
      refine va_sld hx hb hX hbl hbA hS v1 d_Lw_law_582 ?_
      refine lv_aload_n hx hb d_Lw_law_583 rfl (lv_at hl 0 rfl) ?_
      refine lv_iload_n hx hb d_Lw_law_584 rfl (lv_at hl 3 rfl) ?_
      refine lv_iconst (v := 2) hx hb d_Lw_law_585 (by decide) ?_
      refine lv_iadd hx hb d_Lw_law_586 ?_
      refine va_sld hx hb hX hbl hbA hS v2 d_Lw_law_587 ?_
      refine ll_callF (wd := wd_X h cI cZ) (fr := wd_M h' cI cZ g) cx hA hP hD hS (c_La_isA l D h cI cZ _ _ _ _ (sm_isA hSim _ _)) (cw_Lw_71 hts ⟨Nat.le_of_ble_eq_true rfl, Nat.le_of_ble_eq_true rfl⟩) (va_recv hK hP (ci := 0) (q0 := 0) rfl rfl) rfl hl.1 rfl (Nat.le_of_ble_eq_true rfl) d_Lw_law_588 ⟨Nat.le_of_ble_eq_true rfl, Nat.le_of_ble_eq_true rfl⟩ (fun r f1 H locs hG hP hD hS => ?_)
      refine lv_aload_n hx hb d_Lw_law_591 rfl (lv_at hl 2 rfl) ?_
      refine lv_aload_n hx hb d_Lw_law_592 rfl (lv_at hl 0 rfl) ?_
      refine lv_iload_n hx hb d_Lw_law_593 rfl (lv_at hl 3 rfl) ?_
      refine lv_iconst (v := 1) hx hb d_Lw_law_594 (by decide) ?_
      refine lv_iadd hx hb d_Lw_law_595 ?_
      refine va_sld hx hb hX hbl hbA hS v1 d_Lw_law_596 ?_
      refine lv_aload_n hx hb d_Lw_law_597 rfl (lv_at hl 0 rfl) ?_
      refine lv_iload_n hx hb d_Lw_law_598 rfl (lv_at hl 3 rfl) ?_
      refine lv_iconst (v := 2) hx hb d_Lw_law_599 (by decide) ?_
      refine lv_iadd hx hb d_Lw_law_600 ?_
      refine va_sld hx hb hX hbl hbA hS v2 d_Lw_law_601 ?_
      refine ll_callF (wd := wd_M h' cI cZ) (fr := wd_X h cI cZ f1) cx hA hP hD hS (c_Lm_isA l D h' cI cZ _ _ _ _ hG) (cw_Lw_75 hts ⟨Nat.le_of_ble_eq_true rfl, Nat.le_of_ble_eq_true rfl⟩) (va_recv hK hP (ci := 3) (q0 := 0) rfl rfl) rfl hl.1 rfl (Nat.le_of_ble_eq_true rfl) d_Lw_law_602 ⟨Nat.le_of_ble_eq_true rfl, Nat.le_of_ble_eq_true rfl⟩ (fun r' g1 H locs hG hP hD hS => ?_)
      refine lv_icmp_eq (tgt := 633) hx hb d_Lw_law_605 (by decide) (fun c2 => ?_) (fun c2 => ?_)
      · exact nxt f1 g1 hG.2 H locs hP hD hS
      · exact absurd hG.1 c2
    by_cases w14 : x0 = 14
    · refine lv_tableIn (tgt := 610) hx hb d_Lw_law_32 (by rw [w14]; decide) (by rw [w14]; decide) (by rw [w14]; rfl) (by decide) ?_
      refine lv_aload_n hx hb d_Lw_law_610 rfl (lv_at hl 1 rfl) ?_
      refine lv_aload_n hx hb d_Lw_law_611 rfl (lv_at hl 0 rfl) ?_
      refine lv_iload_n hx hb d_Lw_law_612 rfl (lv_at hl 3 rfl) ?_
      refine lv_iconst (v := 1) hx hb d_Lw_law_613 (by decide) ?_
      refine lv_iadd hx hb d_Lw_law_614 ?_
      refine va_sld hx hb hX hbl hbA hS v1 d_Lw_law_615 ?_
      refine ll_callF (wd := wd_X h cI cZ) (fr := wd_M h' cI cZ g) cx hA hP hD hS (c_La_count l D h cI cZ _ _ _ (sm_count hSim _)) (cw_Lw_76 hts ⟨Nat.le_of_ble_eq_true rfl, Nat.le_of_ble_eq_true rfl⟩) (va_recv hK hP (ci := 0) (q0 := 0) rfl rfl) rfl hl.1 rfl (Nat.le_of_ble_eq_true rfl) d_Lw_law_616 ⟨Nat.le_of_ble_eq_true rfl, Nat.le_of_ble_eq_true rfl⟩ (fun r f1 H locs hG hP hD hS => ?_)
      refine lv_aload_n hx hb d_Lw_law_619 rfl (lv_at hl 2 rfl) ?_
      refine lv_aload_n hx hb d_Lw_law_620 rfl (lv_at hl 0 rfl) ?_
      refine lv_iload_n hx hb d_Lw_law_621 rfl (lv_at hl 3 rfl) ?_
      refine lv_iconst (v := 1) hx hb d_Lw_law_622 (by decide) ?_
      refine lv_iadd hx hb d_Lw_law_623 ?_
      refine va_sld hx hb hX hbl hbA hS v1 d_Lw_law_624 ?_
      refine ll_callF (wd := wd_M h' cI cZ) (fr := wd_X h cI cZ f1) cx hA hP hD hS (c_Lm_count l D h' cI cZ _ _ _ hG) (cw_Lw_79 hts ⟨Nat.le_of_ble_eq_true rfl, Nat.le_of_ble_eq_true rfl⟩) (va_recv hK hP (ci := 3) (q0 := 0) rfl rfl) rfl hl.1 rfl (Nat.le_of_ble_eq_true rfl) d_Lw_law_625 ⟨Nat.le_of_ble_eq_true rfl, Nat.le_of_ble_eq_true rfl⟩ (fun r' g1 H locs hG hP hD hS => ?_)
      refine lv_icmp_eq (tgt := 633) hx hb d_Lw_law_628 (by decide) (fun c2 => ?_) (fun c2 => ?_)
      · exact nxt f1 g1 hG.2 H locs hP hD hS
      · exact absurd hG.1 c2
    refine lv_tableOut (tgt := 633) hx hb d_Lw_law_32 (by have := lv_neT w0 (a := 0) (by decide); have := lv_neT w1 (a := 1) (by decide); have := lv_neT w2 (a := 2) (by decide); have := lv_neT w3 (a := 3) (by decide); have := lv_neT w4 (a := 4) (by decide); have := lv_neT w5 (a := 5) (by decide); have := lv_neT w6 (a := 6) (by decide); have := lv_neT w7 (a := 7) (by decide); have := lv_neT w8 (a := 8) (by decide); have := lv_neT w9 (a := 9) (by decide); have := lv_neT w10 (a := 10) (by decide); have := lv_neT w11 (a := 11) (by decide); have := lv_neT w12 (a := 12) (by decide); have := lv_neT w13 (a := 13) (by decide); have := lv_neT w14 (a := 14) (by decide); omega) (by decide) ?_
    exact nxt f g hSim H locs hP hD hS
set_option maxHeartbeats 8000000 in
set_option maxRecDepth 100000 in
theorem whole_start {p : Program} {e : Env} {s : State} {m : MethodId} {below : List Frame} {meth : Method} {c : Code} (l : Launch) {b L : Nat} {xs : Nat → Int32} (hL : L ≤ 2560) (C0 : lw_At p s m meth c b L xs) : W p l e room_1 s m #[Value.ref b] below meth c s.heap [] 0 0 (lw_Z below #[Value.ref b] s) (entryFrame m ([Value.ref b] : List Value).toArray 4) := by
  obtain ⟨hx, hb, hr, hml, hown, hts0, hX, hbl, hlocks, hgv⟩ := id C0
  have hA : ∀ q : Nat, s.heap.size ≤ q → (fun q : Nat => s.heap.size ≤ q) q := fun _ h => h
  have hbA : ¬ (fun q : Nat => s.heap.size ≤ q) b := Nat.not_le.mpr hbl
  have hts : ∀ w ∈ ll_xt, w.before #[Value.ref b] s = true := fun w h => hts0 w (List.mem_filter.mp h).1
  obtain ⟨c0, iS0, hKn0⟩ := u_known (C := R_La) (T := T_La) (N := 6) (n := 6) hts in_La (hts _ minst_La)
  obtain ⟨c1, iS1, hKn1⟩ := u_known (C := R_Lb) (T := T_Lb) (N := 8) (n := 8) hts in_Lb (hts _ minst_Lb)
  obtain ⟨c2, iS2, hKn2⟩ := u_known (C := R_Lc) (T := T_Lc) (N := 9) (n := 9) hts in_Lc (hts _ minst_Lc)
  obtain ⟨c3, iS3, hKn3⟩ := u_known (C := R_Lm) (T := T_Lm) (N := 29) (n := 29) hts in_Lm (hts _ minst_Lm)
  obtain ⟨D, hKc⟩ : ∃ (D : va_G), ∀ (k : Nat) (q : vw_C), vwCl[k]? = some q → u_Kn s q.1 q.2.1 q.2.2 (D.1 k) (D.2 k) := by
    refine ⟨(fun k => if k = 0 then c0 else if k = 1 then c1 else if k = 2 then c2 else c3, fun k => if k = 0 then iS0 else if k = 1 then iS1 else if k = 2 then iS2 else iS3), ?_⟩
    intro k q hq
    match k, hq with
    | 0, hq => cases hq; exact hKn0
    | 1, hq => cases hq; exact hKn1
    | 2, hq => cases hq; exact hKn2
    | 3, hq => cases hq; exact hKn3
    | k + 4, hq => simp [vwCl] at hq
  obtain ⟨cI, kI, compI, hI1, hI2, hI3⟩ := Cond.arrayClass_spec (hts _ marr_I)
  obtain ⟨cZ, kZ, compZ, hZ1, hZ2, hZ3⟩ := Cond.arrayClass_spec (hts _ marr_Z)
  have hS : va_S (fun q : Nat => s.heap.size ≤ q) s.heap s.heap [] := va_S.rf
  have hK : va_K D vwCl [(cI, .int), (cZ, .boolean)] s := ⟨hKc, fun k q h => by
    match k, h with
    | 0, h => cases h; exact ⟨fun n z => ⟨fun k h => (by cases h), kI, hI2, compI, hI3⟩, hI1⟩
    | 1, h => cases h; exact ⟨fun n z => ⟨fun k h => (by cases h), kZ, hZ2, compZ, hZ3⟩, hZ1⟩
    | k + 2, h => simp at h⟩
  have hP : va_P D vwCl [] s.heap := fun k q h => by simp at h
  have hD : va_D (fun q : Nat => s.heap.size ≤ q) [] := ⟨fun i j p q h => by simp at h, fun k q h => by simp at h⟩
  have hl := lv_entry ([.ref b]) (n := 4) (Nat.le_of_ble_eq_true rfl)
  rw [lg_entry_eq]
  generalize (lg_sl ([.ref b]) ++ List.replicate (4 - (lg_sl ([.ref b])).length) Slot.unset).toArray = ls at hl ⊢
  have hl : lv_has ls 4 [(0, .ref b)] := hl
  refine va_new (ci := 0) (fs := [.null, .null, .int 0, .int 0, .int 0, .int 0]) (C := R_La) (T := T_La) (N := 6) hx hb hts in_La ty_La tyok_La hown (hts _ mn_Lw_7) (hts _ minst_La) (hts _ mini_La) hK hP hD hS hA rfl (fun j hj => by rcases (show j = 0 ∨ j = 1 ∨ j = 2 ∨ j = 3 ∨ j = 4 ∨ j = 5 by omega) with rfl | rfl | rfl | rfl | rfl | rfl <;> rfl) (Nat.le_of_ble_eq_true rfl) (Nat.le_of_ble_eq_true rfl) d_Lw_law_0 (fun q H hP hD hS => ?_)
  have hP : va_P D vwCl [(q, .inr (0, [.null, .null, .int 0, .int 0, .int 0, .int 0]))] H := hP
  have hD : va_D (fun q : Nat => s.heap.size ≤ q) [(q, .inr (0, [.null, .null, .int 0, .int 0, .int 0, .int 0]))] := hD
  refine W.widen (k := 1) (n := 6) (by decide) (by decide) ?_
  refine lv_dup hx hb d_Lw_law_3 rfl ?_
  have hFc := va_free (wc := [(q, .inr (0, [.null, .null, .int 0, .int 0, .int 0, .int 0]))]) hD hS hA [0] rfl
  refine va_callv (va_runI (As := []) (rest := [.ref q]) ⟨hx, hb, hml, hown, hts⟩ (ci_La l D cI cZ q H.size (fun f => G_Lm_init (fun _ _ => 0) (fun g => ll_Sim f g)) sm_init) (cwI 0 hts (ll_good mc_La_init) rfl rfl rfl (hts _ mini_La) (hts _ ml_Lw_9) (hts _ mi_La_init) rfl (by decide +kernel) ⟨Nat.le_of_ble_eq_true rfl, Nat.le_of_ble_eq_true rfl⟩) ⟨fun a U g mk q => by obtain ⟨q0, q1, qP, qK, qD⟩ := q; exact ⟨q0, q1, qP, va_K.moved (u := U) (U := U.calling g mk a) (Vm.Alike.refl U.vm) qK, qD⟩, fun U hU hW => ⟨rfl, by rw [hU], by rw [hU]; exact hP, va_K.moved hW.alike hK, hD.weaken (fun _ _ _ _ => trivial)⟩⟩ rfl rfl hl.1 rfl (lv_room (Nat.le_of_ble_eq_true rfl)) d_Lw_law_4 ⟨Nat.le_of_ble_eq_true rfl, Nat.le_of_ble_eq_true rfl⟩) hS (fun q _ h => hFc q h) hFc (fun u t H1 locs ht hvm hw hB hz1 hk1 hS => ?_)
  obtain ⟨h, f⟩ := u
  obtain ⟨hP1, hK1, hD1⟩ := hB
  rw [ht] at hP1
  obtain ⟨e1, hG⟩ := hw
  dsimp only at hP1 hD1 e1 hG
  subst e1
  obtain ⟨hP, hD⟩ := va_join (wr := []) (w1 := wd_X h cI cZ f) hP hD [0] [] rfl rfl (by decide) (by decide) hk1 hFc hP1 hD1
  generalize H1 = H at hP hS ⊢
  have hP : va_P D vwCl (wd_X h cI cZ f) H := hP
  have hD : va_D (fun q : Nat => s.heap.size ≤ q) (wd_X h cI cZ f) := hD
  refine W.widen (k := 19) (n := 835) (by decide) (by decide) ?_
  refine lv_astore_n (lv' := [(1, .ref (h 0)), (0, .ref b)]) hx hb d_Lw_law_7 rfl hl (by decide) rfl (fun ls hl => ?_)
  refine va_new (ci := 3) (fs := [.null, .null, .null, .null, .null, .null, .null, .null, .null, .null, .null, .int 0, .null, .null, .null, .null, .null, .null, .null, .null, .int 0, .null, .null, .null, .int 0, .int 0, .int 0, .int 0, .int 0]) (C := R_Lm) (T := T_Lm) (N := 29) hx hb hts in_Lm ty_Lm tyok_Lm hown (hts _ mn_Lw_10) (hts _ minst_Lm) (hts _ mini_Lm) hK hP hD hS hA rfl (fun j hj => by rcases (show j = 0 ∨ j = 1 ∨ j = 2 ∨ j = 3 ∨ j = 4 ∨ j = 5 ∨ j = 6 ∨ j = 7 ∨ j = 8 ∨ j = 9 ∨ j = 10 ∨ j = 11 ∨ j = 12 ∨ j = 13 ∨ j = 14 ∨ j = 15 ∨ j = 16 ∨ j = 17 ∨ j = 18 ∨ j = 19 ∨ j = 20 ∨ j = 21 ∨ j = 22 ∨ j = 23 ∨ j = 24 ∨ j = 25 ∨ j = 26 ∨ j = 27 ∨ j = 28 by omega) with rfl | rfl | rfl | rfl | rfl | rfl | rfl | rfl | rfl | rfl | rfl | rfl | rfl | rfl | rfl | rfl | rfl | rfl | rfl | rfl | rfl | rfl | rfl | rfl | rfl | rfl | rfl | rfl | rfl <;> rfl) (Nat.le_of_ble_eq_true rfl) (Nat.le_of_ble_eq_true rfl) d_Lw_law_8 (fun q' H hP hD hS => ?_)
  have hP : va_P D vwCl (wd_X h cI cZ f ++ [(q', .inr (3, [.null, .null, .null, .null, .null, .null, .null, .null, .null, .null, .null, .int 0, .null, .null, .null, .null, .null, .null, .null, .null, .int 0, .null, .null, .null, .int 0, .int 0, .int 0, .int 0, .int 0]))]) H := hP
  have hD : va_D (fun q : Nat => s.heap.size ≤ q) (wd_X h cI cZ f ++ [(q', .inr (3, [.null, .null, .null, .null, .null, .null, .null, .null, .null, .null, .null, .int 0, .null, .null, .null, .null, .null, .null, .null, .null, .int 0, .null, .null, .null, .int 0, .int 0, .int 0, .int 0, .int 0]))]) := hD
  refine W.widen (k := 20) (n := 864) (by decide) (by decide) ?_
  refine lv_dup hx hb d_Lw_law_11 rfl ?_
  have hPc := hP.sub (ws' := [(q', .inr (3, [.null, .null, .null, .null, .null, .null, .null, .null, .null, .null, .null, .int 0, .null, .null, .null, .null, .null, .null, .null, .null, .int 0, .null, .null, .null, .int 0, .int 0, .int 0, .int 0, .int 0]))]) [19] rfl
  have hDc := hD.sub (ws' := [(q', .inr (3, [.null, .null, .null, .null, .null, .null, .null, .null, .null, .null, .null, .int 0, .null, .null, .null, .null, .null, .null, .null, .null, .int 0, .null, .null, .null, .int 0, .int 0, .int 0, .int 0, .int 0]))]) [19] (by decide) rfl
  have hFc := va_free (wc := [(q', .inr (3, [.null, .null, .null, .null, .null, .null, .null, .null, .null, .null, .null, .int 0, .null, .null, .null, .null, .null, .null, .null, .null, .int 0, .null, .null, .null, .int 0, .int 0, .int 0, .int 0, .int 0]))]) hD hS hA [19] rfl
  refine va_callv (va_runI (As := []) (rest := [.ref q']) ⟨hx, hb, hml, hown, hts⟩ (ci_Lm l D cI cZ q' H.size _ hG) (cwI 0 hts (ll_good mc_Lm_init) rfl rfl rfl (hts _ mini_Lm) (hts _ ml_Lw_12) (hts _ mi_Lm_init) rfl (by decide +kernel) ⟨Nat.le_of_ble_eq_true rfl, Nat.le_of_ble_eq_true rfl⟩) ⟨fun a U g mk q => by obtain ⟨q0, q1, qP, qK, qD⟩ := q; exact ⟨q0, q1, qP, va_K.moved (u := U) (U := U.calling g mk a) (Vm.Alike.refl U.vm) qK, qD⟩, fun U hU hW => ⟨rfl, by rw [hU], by rw [hU]; exact hPc, va_K.moved hW.alike hK, hDc.weaken (fun _ _ _ _ => trivial)⟩⟩ rfl rfl hl.1 rfl (lv_room (Nat.le_of_ble_eq_true rfl)) d_Lw_law_12 ⟨Nat.le_of_ble_eq_true rfl, Nat.le_of_ble_eq_true rfl⟩) hS (fun q _ h => hFc q h) hFc (fun u t H1 locs ht hvm hw hB hz1 hk1 hS => ?_)
  obtain ⟨h', g⟩ := u
  obtain ⟨hP1, hK1, hD1⟩ := hB
  rw [ht] at hP1
  obtain ⟨e1, hG⟩ := hw
  dsimp only at hP1 hD1 e1 hG
  subst e1
  obtain ⟨hP, hD⟩ := va_join (wr := wd_X h cI cZ f) (w1 := wd_M h' cI cZ g) hP hD [19] [0, 1, 2, 3, 4, 5, 6, 7, 8, 9, 10, 11, 12, 13, 14, 15, 16, 17, 18] rfl rfl (by decide) (by decide) hk1 hFc hP1 hD1
  generalize H1 = H at hP hS ⊢
  refine W.widen (k := 42) (n := 1919) (by decide) (by decide) ?_
  refine lv_astore_n (lv' := [(2, .ref (h' 0)), (1, .ref (h 0)), (0, .ref b)]) hx hb d_Lw_law_15 rfl hl (by decide) rfl (fun ls hl => ?_)
  refine lv_iconst (v := 0) hx hb d_Lw_law_16 (by decide) ?_
  refine lv_istore_n (lv' := [(3, .int 0), (2, .ref (h' 0)), (1, .ref (h 0)), (0, .ref b)]) hx hb d_Lw_law_17 rfl hl (by decide) rfl (fun ls hl => ?_)
  exact law_loop hL C0 hK (L + 6) 0 (by omega) (by omega) f g hG H locs hP hD hS ls (lv_sub hl [3, 2, 1, 0] rfl)
