theorem d2_sim {rq : xRq} {f g g0 : ll_S} {dep c d L n ab v : Nat} {mk : Int32} {K : Int32 → ll_S → Prop} (hrq : RqOk rq (dep + 1)) (F : FS f g dep c d) (hc : c = L * 8 + n) (hL : L < 5) (hn : n < 8) (hv : v ≤ 728) (e1 : f 1 c = nI v) (e4 : g 4 c = nI (v / 81)) (hmk : g 5 c = mk) (h21 : g 21 dep = nI ab) (hab : ab ≤ d) (h20 : g 20 dep = nI 7) (hR : Rch g0 g) (k : ∀ (r : Int32) (f' g' : ll_S) (d' : Nat), fR g0 f g dep c d r f' g' d' → K r f') :
    G_Lb_fileInterface f (nI L) (nI n) (fun r16 f17 => (G_La_resolvePart rq f17 (nI L) r16 (nI dep) (fun r18 f19 => ((0 ≤ r18 → ((r18 = 0 → (G_Lc_size f19 (fun r22 f23 => ((r22 < (30 : Int32) → (G_Lc_add f23 (nI n) (nI L) (nI ab) r18 mk (fun r25 f26 => K r25 f26))) ∧ (¬ r22 < (30 : Int32) → (G_La_fail f23 (-2) (fun r27 f28 => K r27 f28))))))) ∧ (¬ r18 = 0 → (G_Lc_marksOf f19 r18 (fun r29 f30 => ((¬ (r29 &&& 1) = 0 → (G_Lc_size f30 (fun r32 f33 => ((r32 < (30 : Int32) → (G_Lc_add f33 (nI n) (nI L) (nI ab) r18 mk (fun r35 f36 => K r35 f36))) ∧ (¬ r32 < (30 : Int32) → (G_La_fail f33 (-2) (fun r37 f38 => K r37 f38))))))) ∧ ((r29 &&& 1) = 0 → (G_La_fail f30 (-8) (fun r39 f40 => K r39 f40))))))))) ∧ (¬ 0 ≤ r18 → K r18 f19))))) := by
  subst hc
  rw [x_fileInterface hL hn hv e1]
  have hd30 := F.2.1.1
  have st7 : Rch g (mAF g dep (L * 8 + n) L (v / 81) 6) := r_7 (F.fr h20) (fun K hK => by rw [e4]; exact m_askFor F rfl hL hn (by omega) (Or.inr rfl) hK)
  refine rp_sim hrq F hL (by omega) (Or.inr rfl) (hR.trans st7) (fun r f' g' d' hd F' k1 k2 k3 k4 e21 hcase => ⟨fun hge => ⟨fun hz => ?_, fun hz => ?_⟩, fun hlt => ?_⟩)
  · rcases hcase with ⟨hn', -⟩ | ⟨-, hR'⟩ | ⟨j, h1, h2, e, -⟩
    · exact absurd hge (ll_neg hn')
    · subst hz
      rw [if_neg (by decide)] at hR'
      exact mk_sim (g := mG g' dep 8) (fc := 0) F' rfl hL hn (mG_at g' dep 8) (show g' 21 dep = _ by rw [e21, h21]; rfl) (by omega) (by omega) (show g' 5 _ = _ by rw [k2.2.2.2.2.2.1]; exact hmk) hR' (fun r f2 g2 d2 h => k r f2 g2 d2 (fR.base (g := mG g' dep 8) hd k1 k2 (k3.trans (kF_mG g' dep 8)) k4 h))
    · have := F'.2.1.1
      rw [hz] at e
      exact absurd e.symm (nI_ne0 (by omega) (by omega))
  · rcases hcase with ⟨hn', -⟩ | ⟨e, -⟩ | ⟨j, h1, h2, e, hr, e20, hR'⟩
    · exact absurd hge (ll_neg hn')
    · exact absurd e hz
    · have hd31 := F'.2.1.1
      subst e
      rw [x_marksOf (by omega)]
      have em : g' 15 j = f' 12 j := (F'.2.1.2.2.2.1 j h1 h2).2.2.2.2.1
      have rs := rs_6 F' e20 (by omega) hr
      refine ⟨fun hm => ?_, fun hm => ?_⟩
      · refine mk_sim (g := mG (ll_w g' 21 dep (g' 21 dep + 100 * nI j)) dep 8) (fc := j) F' rfl hL hn (mG_at _ dep 8) ?_ (by omega) (by omega) (show g' 5 _ = _ by rw [k2.2.2.2.2.2.1]; exact hmk) (hR'.trans (rs.1 (by rw [em]; exact hm))) (fun r f2 g2 d2 h => k r f2 g2 d2 (fR.base (g := mG (ll_w g' 21 dep (g' 21 dep + 100 * nI j)) dep 8) hd k1 k2 (k3.trans ?_) k4 h))
        · show ll_w g' 21 dep _ 21 dep = _
          rw [ll_w_eq, if_pos rfl, e21, h21, show (100 : Int32) = nI 100 from rfl, pk_mul, nI_add]
        · intro i hi
          exact ⟨rfl, (kF_mG _ dep 8 i hi).2.1, by show ll_w g' 21 dep _ 21 i = _; rw [ll_w_eq, if_neg (by omega)]⟩
      · rw [x_fail]
        refine k (-8) (ll_w f' 18 0 0) g' d' ⟨hd, F', k1, k2, k3, k4, Or.inl ⟨by decide, hR'.trans ?_⟩⟩
        simp only [ll_w_eq, ite_true]
        exact rs.2 (by rw [em]; exact hm)
  · rcases hcase with ⟨hn', hR'⟩ | ⟨e, -⟩ | ⟨j, h1, h2, e, -⟩
    · exact k r f' g' d' ⟨hd, F', k1, k2, k3, k4, Or.inl ⟨hn', hR'⟩⟩
    · exact absurd (by rw [e]; decide) hlt
    · have := F'.2.1.1
      exact absurd (by rw [e]; exact nI_pos' (by omega)) hlt
theorem def_sim {rq : xRq} {f g g0 : ll_S} {dep c d L n : Nat} {K : Int32 → ll_S → Prop} (hrq : RqOk rq (dep + 1)) (F : FS f g dep c d) (hc : c = L * 8 + n) (hL : L < 5) (hn : n < 8) (h20 : g 20 dep = nI 4) (h21 : g 21 dep = 0) (hR : Rch g0 g) (k : ∀ (r : Int32) (f' g' : ll_S) (d' : Nat), fR g0 f g dep c d r f' g' d' → K r f') : G_La_define rq f (nI L) (nI n) (nI dep) K := by
  subst hc
  have hd30 := F.2.1.1
  have ec : (nI (L * 8 + n)).toNatClampNeg = L * 8 + n := nI_clamp (by omega)
  have hi : vp_in (nI (L * 8 + n)) 40 := vp_in_nI (by omega) (by omega)
  have hfile := F.1.2.1 (L * 8 + n) (by omega)
  have bad : ∀ (v : Int32), v < 0 → (∀ K : ll_S → Prop, K (mE g dep (L * 8 + n) v 0) → G_Lm_define g (nI (L * 8 + n)) K) → G_La_fail f v (fun r f => K r f) := by
    intro v hv h
    rw [x_fail]
    refine k v (ll_w f 18 0 0) g d ⟨Nat.le_refl d, F, kS.rf f, kM.rf g, kF.rf g dep, kU.rf f, Or.inl ⟨hv, hR.trans ?_⟩⟩
    simp only [ll_w_eq, ite_true]
    exact r_4 (F.fr h20) h
  unfold G_La_define
  rw [x_hasFile hL hn]
  refine ⟨fun hno => ⟨fun q => absurd rfl q, fun _ => bad (-3) (by decide) (fun K hK => ?_)⟩, fun hyes => ⟨fun _ => ?_, fun q => absurd q (by decide)⟩⟩
  · have g1 : g 1 (L * 8 + n) = 0 := by
      rcases hfile with q | ⟨v, q1, -, q2, -⟩
      · exact q.2
      · rw [q2] at hno; exact absurd hno (by intro z; have := congrArg Int32.toInt z; rw [nI_toInt (by omega), tI_m1] at this; omega)
    unfold G_Lm_define
    rw [ec]
    exact ⟨hi, fun q => absurd g1 q, fun _ => F.e.mpr hK⟩
  · obtain ⟨v, hv, h8, e1, f1, f2, f3, f4, f5⟩ := hfile.resolve_left (fun q => hyes q.1)
    have g1 : ¬ g 1 (L * 8 + n) = 0 := by rw [f1]; decide
    have em8 : nI (L * 8 + n) - nI (L * 8 + n) / 8 * 8 = nI n := ll_mod8 hn (by omega)
    rw [x_fileMarks hL hn]
    refine ⟨fun hm => ?_, fun hm => bad (-6) (by decide) (fun K hK => ?_)⟩
    · rw [x_fileSays hL hn hv e1]
      refine ⟨fun hs => ?_, fun hs => bad (-5) (by decide) (fun K hK => ?_)⟩
      · rw [x_fileSuperclass hL hn hv e1]
        have st : Rch g (mAF g dep (L * 8 + n) L (v / 9 % 9) 5) := r_4 (F.fr h20) (fun K hK => by
          unfold G_Lm_define
          rw [ec, em8, f2, f3, f5]
          exact ⟨hi, fun _ => ⟨hi, fun _ => ⟨hi, fun _ => ⟨hi, m_askFor F rfl hL hn (by omega) (Or.inl rfl) hK⟩, fun q => absurd hs q⟩, fun q => absurd hm q⟩, fun q => absurd q g1⟩)
        refine rp_sim hrq F hL (by omega) (Or.inl rfl) (hR.trans st) (fun r f' g' d' hd F' k1 k2 k3 k4 e21 hcase => ⟨fun hge => ⟨fun hz => ?_, fun hz => ?_⟩, fun hlt => ?_⟩)
        · rcases hcase with ⟨hn', -⟩ | ⟨-, hR'⟩ | ⟨j, h1, h2, e, -⟩
          · exact absurd hge (ll_neg hn')
          · subst hz
            rw [if_pos rfl] at hR'
            exact d2_sim (g := mG g' dep 7) (ab := 0) hrq F' rfl hL hn hv (by rw [k1.2.1]; exact e1) (show g' 4 _ = _ by rw [k2.2.2.2.2.1]; exact f4) (show g' 5 _ = _ by rw [k2.2.2.2.2.2.1]; exact f5) (show g' 21 dep = _ by rw [e21, h21]; rfl) (by omega) (mG_at g' dep 7) hR' (fun r f2 g2 d2 h => k r f2 g2 d2 (fR.base (g := mG g' dep 7) hd k1 k2 (k3.trans (kF_mG g' dep 7)) k4 h))
          · have := F'.2.1.1
            rw [hz] at e
            exact absurd e.symm (nI_ne0 (by omega) (by omega))
        · rcases hcase with ⟨hn', -⟩ | ⟨e, -⟩ | ⟨j, h1, h2, e, hr, e20, hR'⟩
          · exact absurd hge (ll_neg hn')
          · exact absurd e hz
          · have hd31 := F'.2.1.1
            subst e
            rw [x_marksOf (by omega)]
            have em : g' 15 j = f' 12 j := (F'.2.1.2.2.2.1 j h1 h2).2.2.2.2.1
            have rs := rs_5 F' e20 (by omega) hr
            refine ⟨fun hm => ?_, fun hm => ?_⟩
            · refine d2_sim (g := mG (ll_w g' 21 dep (nI j)) dep 7) (ab := j) hrq F' rfl hL hn hv (by rw [k1.2.1]; exact e1) (show g' 4 _ = _ by rw [k2.2.2.2.2.1]; exact f4) (show g' 5 _ = _ by rw [k2.2.2.2.2.2.1]; exact f5) ?_ h2 (mG_at _ dep 7) (hR'.trans (rs.1 (by rw [em]; exact hm))) (fun r f2 g2 d2 h => k r f2 g2 d2 (fR.base (g := mG (ll_w g' 21 dep (nI j)) dep 7) hd k1 k2 (k3.trans ?_) k4 h))
              · show ll_w g' 21 dep _ 21 dep = _
                rw [ll_w_eq, if_pos rfl]
              · intro i hi
                exact ⟨rfl, (kF_mG _ dep 7 i hi).2.1, by show ll_w g' 21 dep _ 21 i = _; rw [ll_w_eq, if_neg (by omega)]⟩
            · rw [x_fail]
              refine k (-8) (ll_w f' 18 0 0) g' d' ⟨hd, F', k1, k2, k3, k4, Or.inl ⟨by decide, hR'.trans ?_⟩⟩
              simp only [ll_w_eq, ite_true]
              exact rs.2 (by rw [em]; exact hm)
        · rcases hcase with ⟨hn', hR'⟩ | ⟨e, -⟩ | ⟨j, h1, h2, e, -⟩
          · exact k r f' g' d' ⟨hd, F', k1, k2, k3, k4, Or.inl ⟨hn', hR'⟩⟩
          · exact absurd (by rw [e]; decide) hlt
          · have := F'.2.1.1
            exact absurd (by rw [e]; exact nI_pos' (by omega)) hlt
      · unfold G_Lm_define
        rw [ec, em8, f2, f5]
        exact ⟨hi, fun _ => ⟨hi, fun _ => ⟨hi, fun q => absurd q hs, fun _ => F.e.mpr hK⟩, fun q => absurd hm q⟩, fun q => absurd q g1⟩
    · unfold G_Lm_define
      rw [ec, f5]
      exact ⟨hi, fun _ => ⟨hi, fun q => absurd q hm, fun _ => F.e.mpr hK⟩, fun q => absurd q g1⟩
/-! by the parent -/
def mT (g : ll_S) (dep L n : Nat) : ll_S := if 0 ≤ g 0 L then mB (mG g dep (nI 1)) (dep + 1) ((g 0 L).toNatClampNeg * 8 + n) else mG g dep 4
theorem m_toParent {f g : ll_S} {dep c d L n : Nat} {K : ll_S → Prop} (F : FS f g dep c d) (hL : L < 5) (hn : n < 8) (hK : K (mT g dep L n)) : G_Lm_toParent g (nI L) (nI n) K := by
  have hi : vp_in (nI L) 5 := vp_in_nI hL (by omega)
  unfold G_Lm_toParent
  unfold mT at hK
  rw [nI_clamp (by omega)]
  refine ⟨hi, fun q => ⟨hi, ?_⟩, fun q => ?_⟩
  · rw [if_pos q] at hK
    obtain ⟨e, hcase⟩ := F.1.1 L hL
    rcases hcase with z | ⟨p, hp, z⟩
    · rw [e, z] at q; exact absurd q (by decide)
    · rw [e, z] at hK ⊢
      rw [nI_clamp (by omega)] at hK
      exact (m_ask F.d F.2.2.1 hp hn).mpr hK
  · rw [if_neg q] at hK
    exact F.g.mpr hK
theorem pd_sim {rq : xRq} {f g g0 : ll_S} {dep c d L n : Nat} {K : Int32 → ll_S → Prop} (hrq : RqOk rq (dep + 1)) (F : FS f g dep c d) (hc : c = L * 8 + n) (hL : L < 5) (hn : n < 8) (h21 : g 21 dep = 0) (hR : Rch g0 (mT g dep L n)) (k : ∀ (r : Int32) (f' g' : ll_S) (d' : Nat), fR g0 f g dep c d r f' g' d' → K r f') : G_La_askParentThenDefine rq f (nI L) (nI n) (nI dep) K := by
  unfold G_La_askParentThenDefine G_La_askParent
  rw [x_parentOf hL]
  obtain ⟨hp, hcase⟩ := F.1.1 L hL
  unfold mT at hR
  rcases hcase with e | ⟨p, hp5, e⟩
  · rw [hp, e, if_neg (by decide)] at hR
    rw [e]
    refine ⟨fun q => absurd rfl q, fun _ => ?_⟩
    rw [x_fail]
    refine ⟨fun q => absurd rfl q, fun _ => ?_⟩
    exact def_sim (f := ll_w f 18 0 0) (g := mG g dep 4) hrq F hc hL hn (mG_at g dep 4) h21 hR (fun r f' g' d' h => k r f' g' d' (fR.base (f := ll_w f 18 0 0) (g := mG g dep 4) (Nat.le_refl d) (kS.rf f) (kM.rf g) (kF_mG g dep 4) (kU.rf f) h))
  · rw [hp, e, if_pos (nI_pos' (by omega)), nI_clamp (by omega)] at hR
    rw [e]
    refine ⟨fun _ => ?_, fun q => absurd q (by intro z; have := congrArg Int32.toInt z; rw [nI_toInt (by omega), tI_m1] at this; omega)⟩
    refine ask_child 1 hrq F hp5 hn (fun r f' g' d' hd hR2 F' k1 k2 k3 k4 e20 e21 hr ha => ⟨fun hne => ?_, fun he => ?_⟩)
    · have st : Rch g' (mG g' dep 2) := r_1 (F'.fr e20) (fun K hK => by
        unfold G_Lm_parentAnswers
        rw [hr]
        exact ⟨fun _ => F'.g.mpr hK, fun q => absurd q hne⟩)
      refine k r f' (mG g' dep 2) d' ⟨hd, F', k1, k2, k3.trans (kF_mG g' dep 2), k4, ?_⟩
      rcases ha with ⟨hn', e'⟩ | ⟨j, h1, h2, e'⟩
      · refine Or.inl ⟨hn', ((hR.trans hR2).trans st).trans ?_⟩
        rw [← e']
        exact ans2 (g := mG g' dep 2) F' (mG_at g' dep 2) hr hn'
      · exact Or.inr (Or.inr ⟨j, h1, h2, e', hr, mG_at g' dep 2, (hR.trans hR2).trans st⟩)
    · have st : Rch g' (mG g' dep 4) := r_1 (F'.fr e20) (fun K hK => by
        unfold G_Lm_parentAnswers
        rw [hr]
        exact ⟨fun q => absurd he q, fun _ => F'.g.mpr hK⟩)
      exact def_sim (g := mG g' dep 4) hrq F' hc hL hn (mG_at g' dep 4) (show g' 21 dep = 0 by rw [e21, h21]) ((hR.trans hR2).trans st) (fun r f2 g2 d2 h => k r f2 g2 d2 (fR.base (g := mG g' dep 4) hd k1 k2 (k3.trans (kF_mG g' dep 4)) k4 h))
/-! the script -/
theorem fs_sim {rq : xRq} {f g : ll_S} {dep c d L n : Nat} {K : Int32 → ll_S → Prop} (hrq : RqOk rq (dep + 1)) (F : FS f g dep c d) (hc : c = L * 8 + n) (hL : L < 5) (hn : n < 8) (h20 : g 20 dep = nI 0) (h21 : g 21 dep = 0) (k : ∀ (r : Int32) (f' g' : ll_S) (d' : Nat), fR g f g dep c d r f' g' d' → K r f') : G_La_followScript rq f (nI L) (nI n) (nI dep) K := by
  subst hc
  have hdep := F.2.2.1
  have ec : (nI (L * 8 + n)).toNatClampNeg = L * 8 + n := nI_clamp (by omega)
  have hi : vp_in (nI (L * 8 + n)) 40 := vp_in_nI (by omega) (by omega)
  have hi5 : vp_in (nI L) 5 := vp_in_nI hL (by omega)
  have eL : (nI L).toNatClampNeg = L := nI_clamp (by omega)
  have em8 : nI (L * 8 + n) - nI (L * 8 + n) / 8 * 8 = nI n := ll_mod8 hn (by omega)
  have ed8 : nI (L * 8 + n) / 8 = nI L := ll_div8 hn (by omega)
  have em8' : nI (L * 8 + n) - nI L * 8 = nI n := by rw [← ed8]; exact em8
  obtain ⟨e6, e7, w, hw, ew, hw2, hw3⟩ := F.1.2.2.1 (L * 8 + n) (by omega)
  have hfile := F.1.2.1 (L * 8 + n) (by omega)
  have endR : ∀ (v : Int32), v < 0 → (∀ K : ll_S → Prop, K (mE g dep (L * 8 + n) v 0) → G_Lm_start g (nI (L * 8 + n)) K) → K v (ll_w f 18 0 0) := by
    intro v hv h
    refine k v (ll_w f 18 0 0) g d ⟨Nat.le_refl d, F, kS.rf f, kM.rf g, kF.rf g dep, kU.rf f, Or.inl ⟨hv, ?_⟩⟩
    simp only [ll_w_eq, ite_true]
    exact r_0 (F.fr h20) h
  unfold G_La_followScript
  rw [x_scriptNumber hL hn, x_scriptWay hL hn, ew]
  rcases (show w = 0 ∨ w = 1 ∨ w = 2 ∨ w = 3 ∨ w = 4 ∨ w = 5 ∨ w = 6 by omega) with rfl | rfl | rfl | rfl | rfl | rfl | rfl
  · refine ⟨fun q => absurd q (by decide), fun _ => ⟨fun q => absurd q (by decide), fun _ => ⟨fun q => absurd q (by decide), fun _ => ⟨fun q => absurd q (by decide), fun _ => ⟨fun q => absurd q (by decide), fun _ => ⟨fun q => absurd q (by decide), fun _ => ?_⟩⟩⟩⟩⟩⟩
    have st : Rch g (mT g dep L n) := r_0 (F.fr h20) (fun K hK => by
      unfold G_Lm_start
      rw [ec, e6, ew, ed8, em8']
      exact ⟨hi, fun _ => m_toParent F hL hn hK, fun q => absurd rfl q⟩)
    exact pd_sim hrq F rfl hL hn h21 st k
  · refine ⟨fun _ => ?_, fun q => absurd rfl q⟩
    rw [x_hasFile hL hn]
    refine ⟨fun hno => ⟨fun _ => ?_, fun q => absurd rfl q⟩, fun hyes => ⟨fun q => absurd q (by decide), fun _ => ?_⟩⟩
    · have g1 : g 1 (L * 8 + n) = 0 := by
        rcases hfile with q | ⟨v, q1, -, q2, -⟩
        · exact q.2
        · rw [q2] at hno; exact absurd hno (by intro z; have := congrArg Int32.toInt z; rw [nI_toInt (by omega), tI_m1] at this; omega)
      unfold G_La_askParent
      rw [x_parentOf hL]
      obtain ⟨hp, hcase⟩ := F.1.1 L hL
      rcases hcase with e | ⟨p, hp5, e⟩
      · rw [e]
        refine ⟨fun q => absurd rfl q, fun _ => ?_⟩
        rw [x_fail]
        refine endR (-3) (by decide) (fun K hK => ?_)
        unfold G_Lm_start
        rw [ec, e6, ew, ed8, em8', eL, hp, e]
        exact ⟨hi, fun q => absurd q (by decide), fun _ => ⟨fun _ => ⟨hi, fun _ => ⟨hi5, fun q => absurd q (by decide), fun _ => F.e.mpr hK⟩, fun q => absurd g1 q⟩, fun q => absurd rfl q⟩⟩
      · rw [e]
        refine ⟨fun _ => ?_, fun q => absurd q (by intro z; have := congrArg Int32.toInt z; rw [nI_toInt (by omega), tI_m1] at this; omega)⟩
        have st : Rch g (mB (mG g dep (nI 2)) (dep + 1) (p * 8 + n)) := r_0 (F.fr h20) (fun K hK => by
          unfold G_Lm_start
          rw [ec, e6, ew, ed8, em8', eL, hp, e]
          exact ⟨hi, fun q => absurd q (by decide), fun _ => ⟨fun _ => ⟨hi, fun _ => ⟨hi5, fun _ => ⟨hi5, (m_ask F.d hdep hp5 hn).mpr hK⟩, fun q => absurd (nI_pos' (by omega)) q⟩, fun q => absurd g1 q⟩, fun q => absurd rfl q⟩⟩)
        exact ask_child 2 hrq F hp5 hn (fun r f' g' d' hd hR2 F' k1 k2 k3 k4 e20 e21 hr ha => k r f' g' d' (child2 st hd hR2 F' k1 k2 k3 k4 e20 hr ha))
    · have g1 : ¬ g 1 (L * 8 + n) = 0 := by
        obtain ⟨v, hv, h8, e1, f1, -⟩ := hfile.resolve_left (fun q => hyes q.1)
        rw [f1]; decide
      have st : Rch g (mG g dep 4) := r_0 (F.fr h20) (fun K hK => by
        unfold G_Lm_start
        rw [ec, e6, ew]
        exact ⟨hi, fun q => absurd q (by decide), fun _ => ⟨fun _ => ⟨hi, fun q => absurd q g1, fun _ => F.g.mpr hK⟩, fun q => absurd rfl q⟩⟩)
      exact def_sim (g := mG g dep 4) hrq F rfl hL hn (mG_at g dep 4) h21 st (fun r f2 g2 d2 h => k r f2 g2 d2 (fR.base (g := mG g dep 4) (Nat.le_refl d) (kS.rf f) (kM.rf g) (kF_mG g dep 4) (kU.rf f) h))
  · refine ⟨fun q => absurd q (by decide), fun _ => ⟨fun _ => ?_, fun q => absurd rfl q⟩⟩
    obtain ⟨m, hm, em⟩ := hw2 rfl
    rw [em]
    have st : Rch g (mB (mG g dep (nI 2)) (dep + 1) (m * 8 + n)) := r_0 (F.fr h20) (fun K hK => by
      unfold G_Lm_start
      rw [ec, e6, ew, ed8, em8', e7, em]
      exact ⟨hi, fun q => absurd q (by decide), fun _ => ⟨fun q => absurd q (by decide), fun _ => ⟨fun _ => ⟨hi, (m_ask F.d hdep hm hn).mpr hK⟩, fun q => absurd rfl q⟩⟩⟩)
    exact ask_child 2 hrq F hm hn (fun r f' g' d' hd hR2 F' k1 k2 k3 k4 e20 e21 hr ha => k r f' g' d' (child2 st hd hR2 F' k1 k2 k3 k4 e20 hr ha))
  · refine ⟨fun q => absurd q (by decide), fun _ => ⟨fun q => absurd q (by decide), fun _ => ⟨fun _ => ?_, fun q => absurd rfl q⟩⟩⟩
    obtain ⟨m, hm, em⟩ := hw3 (Or.inl rfl)
    rw [em]
    have st : Rch g (mB (mG g dep (nI 2)) (dep + 1) (L * 8 + m)) := r_0 (F.fr h20) (fun K hK => by
      unfold G_Lm_start
      rw [ec, e6, ew, ed8, em8', e7, em]
      exact ⟨hi, fun q => absurd q (by decide), fun _ => ⟨fun q => absurd q (by decide), fun _ => ⟨fun q => absurd q (by decide), fun _ => ⟨fun _ => ⟨hi, (m_ask F.d hdep hL hm).mpr hK⟩, fun q => absurd rfl q⟩⟩⟩⟩)
    exact ask_child 2 hrq F hL hm (fun r f' g' d' hd hR2 F' k1 k2 k3 k4 e20 e21 hr ha => k r f' g' d' (child2 st hd hR2 F' k1 k2 k3 k4 e20 hr ha))
  · refine ⟨fun q => absurd q (by decide), fun _ => ⟨fun q => absurd q (by decide), fun _ => ⟨fun q => absurd q (by decide), fun _ => ⟨fun _ => ?_, fun q => absurd rfl q⟩⟩⟩⟩
    refine k 0 f g d ⟨Nat.le_refl d, F, kS.rf f, kM.rf g, kF.rf g dep, kU.rf f, Or.inr (Or.inl ⟨rfl, r_0 (F.fr h20) (fun K hK => ?_)⟩)⟩
    unfold G_Lm_start
    rw [ec, e6, ew]
    exact ⟨hi, fun q => absurd q (by decide), fun _ => ⟨fun q => absurd q (by decide), fun _ => ⟨fun q => absurd q (by decide), fun _ => ⟨fun q => absurd q (by decide), fun _ => ⟨fun _ => F.e.mpr hK, fun q => absurd rfl q⟩⟩⟩⟩⟩
  · refine ⟨fun q => absurd q (by decide), fun _ => ⟨fun q => absurd q (by decide), fun _ => ⟨fun q => absurd q (by decide), fun _ => ⟨fun q => absurd q (by decide), fun _ => ⟨fun _ => ?_, fun q => absurd rfl q⟩⟩⟩⟩⟩
    rw [x_fail]
    refine endR (-11) (by decide) (fun K hK => ?_)
    unfold G_Lm_start
    rw [ec, e6, ew]
    exact ⟨hi, fun q => absurd q (by decide), fun _ => ⟨fun q => absurd q (by decide), fun _ => ⟨fun q => absurd q (by decide), fun _ => ⟨fun q => absurd q (by decide), fun _ => ⟨fun q => absurd q (by decide), fun _ => ⟨fun _ => F.e.mpr hK, fun q => absurd rfl q⟩⟩⟩⟩⟩⟩
  · refine ⟨fun q => absurd q (by decide), fun _ => ⟨fun q => absurd q (by decide), fun _ => ⟨fun q => absurd q (by decide), fun _ => ⟨fun q => absurd q (by decide), fun _ => ⟨fun q => absurd q (by decide), fun _ => ⟨fun _ => ?_, fun q => absurd rfl q⟩⟩⟩⟩⟩⟩
    obtain ⟨m, hm, em⟩ := hw3 (Or.inr rfl)
    rw [em]
    have st : Rch g (mB (mG g dep (nI 3)) (dep + 1) (L * 8 + m)) := r_0 (F.fr h20) (fun K hK => by
      unfold G_Lm_start
      rw [ec, e6, ew, ed8, em8', e7, em]
      exact ⟨hi, fun q => absurd q (by decide), fun _ => ⟨fun q => absurd q (by decide), fun _ => ⟨fun q => absurd q (by decide), fun _ => ⟨fun q => absurd q (by decide), fun _ => ⟨fun q => absurd q (by decide), fun _ => ⟨fun q => absurd q (by decide), fun _ => ⟨hi, (m_ask F.d hdep hL hm).mpr hK⟩⟩⟩⟩⟩⟩⟩)
    refine ask_child 3 hrq F hL hm (fun r f' g' d' hd hR2 F' k1 k2 k3 k4 e20 e21 hr ha => ⟨fun hge => ?_, fun hlt => ?_⟩)
    · have st2 : Rch g' (mT g' dep L n) := r_3 (F'.fr e20) (fun K hK => by
        unfold G_Lm_unused
        rw [hr, ed8, em8']
        exact ⟨fun _ => m_toParent F' hL hn hK, fun q => absurd hge q⟩)
      exact pd_sim hrq F' rfl hL hn (by rw [e21, h21]) ((st.trans hR2).trans st2) (fun r f2 g2 d2 h => k r f2 g2 d2 (fR.base hd k1 k2 k3 k4 h))
    · have hneg : r < 0 := Int32.not_le.mp hlt
      have e' : g' 25 0 = f' 18 0 := by
        rcases ha with ⟨-, e'⟩ | ⟨j, h1, h2, e'⟩
        · exact e'
        · have := F'.2.1.1
          exact absurd (by rw [e']; exact nI_pos' (by omega)) hlt
      refine k r f' g' d' ⟨hd, F', k1, k2, k3, k4, Or.inl ⟨hneg, (st.trans hR2).trans ?_⟩⟩
      rw [← e']
      exact r_3 (F'.fr e20) (fun K hK => by
        unfold G_Lm_unused
        rw [hr]
        exact ⟨fun q => absurd q hlt, fun _ => F'.e.mpr hK⟩)
