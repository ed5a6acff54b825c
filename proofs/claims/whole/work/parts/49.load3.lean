def xW (f : ll_S) (v w : Int32) : ll_S := if 0 ≤ v then ll_w (ll_w f 19 0 0) 20 0 0 else ll_w (ll_w f 19 0 v) 20 0 w
theorem x_endWith {f : ll_S} {v w : Int32} {K : Int32 → ll_S → Prop} (h : K v (xW f v w)) : G_La_endWith f v w K := by
  unfold G_La_endWith
  unfold xW at h
  simp only [forall_eq]
  refine ⟨fun q => ⟨fun _ => ?_, fun z => absurd q z⟩, fun q => ⟨fun z => absurd z q, fun _ => ?_⟩⟩
  · rw [if_pos q] at h; exact h
  · rw [if_neg q] at h; exact h
def mF (g : ll_S) : ll_S := if 0 ≤ g 24 0 then ll_w (ll_w g 27 0 0) 28 0 0 else ll_w (ll_w g 27 0 (g 24 0)) 28 0 (g 25 0)
theorem m_finish {g : ll_S} {K : Int32 → ll_S → Prop} (h : K (g 24 0) (mF g)) : G_Lm_finish g K := by
  unfold G_Lm_finish
  unfold mF at h
  simp (disch := decide) only [forall_eq, ll_w_ne]
  refine ⟨fun q => ⟨fun _ => ?_, fun z => absurd q z⟩, fun q => ⟨fun z => absurd z q, fun _ => ?_⟩⟩
  · rw [if_pos q] at h; exact h
  · rw [if_neg q] at h; exact h
theorem m_runfin {g g' : ll_S} {K : ll_S → Prop} (hR : Rch g g') (h0 : g' 23 0 = nI 0) (hK : K g') : G_Lm_run g K :=
  hR K ⟨1, by rw [G_Lm_run_L, h0]; exact ⟨fun _ => hK, fun q => absurd (by decide) q⟩⟩
theorem sim_fin {f g : ll_S} {d : Nat} {v w : Int32} (hA : sA f g) (hB : sB f g 0 d) (hgot : g 24 0 = v) (ha : v < 0 → g 25 0 = w) : ll_Sim (xW f v w) (mF g) := by
  unfold xW mF
  rw [hgot]
  by_cases q : 0 ≤ v
  · rw [if_pos q, if_pos q]
    refine ⟨hA, ⟨d, hB⟩, ?_, ?_⟩
    · simp (disch := decide) only [ll_w_ne, ll_w_eq, ite_true]
    · simp (disch := decide) only [ll_w_eq, ite_true]
  · rw [if_neg q, if_neg q]
    refine ⟨hA, ⟨d, hB⟩, ?_, ?_⟩
    · simp (disch := decide) only [ll_w_ne, ll_w_eq, ite_true]
    · simp (disch := decide) only [ll_w_eq, ite_true]; exact (ha (Int32.not_le.mp q)).symm
theorem ll_aO {v : Int32} {f g : ll_S} {d : Nat} (hd : d ≤ 30) (h : aO v f g d) : v < 0 → g 25 0 = f 18 0 := by
  intro hn
  rcases h with h | ⟨j, h1, h2, rfl⟩
  · exact h.2
  · exact absurd hn (nI_pos (by omega))
theorem sm_load {f g : ll_S} (h : ll_Sim f g) (a1 a2 : Int32) : G_La_load f a1 a2 (fun r f' => G_Lm_load g a1 a2 (fun r' g' => r = r' ∧ ll_Sim f' g')) := by
  obtain ⟨hA, ⟨d, hB⟩, s7, s8⟩ := id h
  unfold G_La_load
  refine x_inRange (fun c => ⟨fun q => absurd rfl q, fun _ => m_place (fun _ => ⟨fun q => absurd rfl q, fun _ => ⟨rfl, h⟩⟩) (fun L n q1 q2 q3 q4 => absurd ⟨L, n, q1, q2, q3, q4⟩ c)⟩) (fun L n hL hn e1 e2 => ⟨fun _ => ?_, fun q => absurd q (by decide)⟩)
  subst e1 e2
  rintro f4 rfl
  obtain ⟨b1, b2, b3, b4, b5, b6, b7, b8, b9⟩ := id hB
  have hB4 : sB (ll_w f 17 0 0) (ll_w g 26 0 0) 0 d := ⟨b1, b2, b3, b4, b5, b6, b7, b8, by rw [ll_w_eq, ll_w_eq, if_pos rfl, if_pos rfl]⟩
  unfold G_rq
  rw [← nI_0]
  refine rq_all 41 0 rfl (ll_w f 17 0 0) (ll_w g 26 0 0) d L n _ hL hn hA hB4 (fun r f' g' d' hd hR k1 k2 k3 k4 hB' hgot ha => x_endWith ?_)
  unfold G_Lm_load
  refine m_place (fun q => absurd ⟨L, n, hL, hn, rfl, rfl⟩ q) (fun _ _ _ _ _ _ => ⟨fun _ => ?_, fun q => absurd q (by decide)⟩)
  rintro g4 rfl
  rw [m_begin (dep := 0) (show (ll_w g 26 0 0) 23 0 = nI 0 from b8) (by omega) hL hn]
  refine m_runfin hR hB'.2.2.2.2.2.2.2.1 (m_finish ?_)
  rw [hgot]
  have hA' : sA f' g' := sA.keep (f := f) (g := g) hA k1 k2
  exact ⟨rfl, sim_fin hA' hB' hgot (ll_aO hB'.1 ha)⟩
/-! resolve -/
def mK (g : ll_S) (p : Nat) (v : Int32) : ll_S := if 0 ≤ v then mC (ll_w (ll_w g 17 p v) 18 p 0) v 0 else mC (ll_w (ll_w g 17 p v) 18 p (g 25 0)) v (g 25 0)
def xK (f : ll_S) (q : Nat) (v : Int32) : ll_S := ll_w (ll_w f 14 q v) 15 q (f 18 0)
theorem sim_keep {f g : ll_S} {d q : Nat} {v : Int32} (hA : sA f g) (hB : sB f g 0 d) (hq : 4 ≤ q) (hq2 : q < 124) (ha : v < 0 → g 25 0 = f 18 0) : ll_Sim (xW (xK f q v) v (f 18 0)) (mF (mK g (q - 4) v)) := by
  obtain ⟨a1, a2, a3, a4, a5⟩ := hA
  have key : ∀ (w : Int32), (v < 0 → w = f 18 0) → sA (xK f q v) (mC (ll_w (ll_w g 17 (q - 4) v) 18 (q - 4) w) v w) := by
    intro w hw
    refine ⟨a1, a2, a3, a4, fun p hp => ?_⟩
    simp (disch := decide) only [xK, mC, ll_w_ne, ll_w_eq]
    by_cases e : p = q - 4
    · subst e
      rw [show q - 4 + 4 = q by omega]
      refine ⟨by simp, fun z => ?_, ?_⟩
      · simp at z ⊢; exact hw z
      · have := (a5 (q - 4) hp).2.2
        rw [show q - 4 + 4 = q by omega] at this
        exact this
    · have e2 : ¬ p + 4 = q := by omega
      simp only [if_neg e, if_neg e2]
      exact a5 p hp
  unfold mK
  by_cases z : 0 ≤ v
  · rw [if_pos z]
    exact sim_fin (g := mC (ll_w (ll_w g 17 (q - 4) v) 18 (q - 4) 0) v 0) (key 0 (fun y => absurd z (ll_neg y))) hB (by simp (disch := decide) only [mC, ll_w_ne, ll_w_eq, ite_true]) (fun y => absurd z (ll_neg y))
  · rw [if_neg z]
    exact sim_fin (g := mC (ll_w (ll_w g 17 (q - 4) v) 18 (q - 4) (g 25 0)) v (g 25 0)) (key (g 25 0) ha) hB (by simp (disch := decide) only [mC, ll_w_ne, ll_w_eq, ite_true]) (fun y => by simp (disch := decide) only [mC, ll_w_ne, ll_w_eq, ite_true]; exact ha y)
theorem x_tail {f : ll_S} {j r : Nat} {v : Int32} {K : Int32 → ll_S → Prop} (hj : j < 31) (hr : r < 4) (h : K v (xW (xK f (j * 4 + r) v) v (f 18 0))) : G_Lc_keep f (nI j) (nI r) v (f 18 0) (fun f24 => (G_Lc_keptFor f24 (nI j) (nI r) (fun r25 f26 => (G_Lc_keptCause f26 (nI j) (nI r) (fun r27 f28 => (G_La_endWith f28 r25 r27 (fun r29 f30 => K r29 f30))))))) := by
  have hi : vp_in (nI (j * 4 + r)) 124 := vp_in_nI (by omega) (by omega)
  simp only [G_Lc_keep, G_Lc_place, ll_c4, forall_eq, nI_clamp (show j * 4 + r < 2 ^ 31 by omega)]
  refine ⟨hi, hi, ?_⟩
  rw [x_keptFor hj hr, x_keptCause hj hr]
  refine x_endWith ?_
  simp (disch := decide) only [ll_w_ne, ll_w_eq, ite_true]
  exact h
def mTl (g : ll_S) (p : Nat) (K : Int32 → ll_S → Prop) : Prop := (vp_in (nI p) 124 ∧ ∀ f19, f19 = ll_w g 17 (nI p).toNatClampNeg (g 24 0) → ((0 ≤ (f19 24 0) → (vp_in (nI p) 124 ∧ ∀ f21, f21 = ll_w f19 18 (nI p).toNatClampNeg 0 → (vp_in (nI p) 124 ∧ (vp_in (nI p) 124 ∧ (G_Lm_come f21 (f21 17 (nI p).toNatClampNeg) (f21 18 (nI p).toNatClampNeg) (fun f23 => (G_Lm_finish f23  (fun r24 f25 => K r24 f25)))))))) ∧ (¬ 0 ≤ (f19 24 0) → (vp_in (nI p) 124 ∧ ∀ f26, f26 = ll_w f19 18 (nI p).toNatClampNeg (f19 25 0) → (vp_in (nI p) 124 ∧ (vp_in (nI p) 124 ∧ (G_Lm_come f26 (f26 17 (nI p).toNatClampNeg) (f26 18 (nI p).toNatClampNeg) (fun f28 => (G_Lm_finish f28  (fun r29 f30 => K r29 f30))))))))))
theorem m_tail {g : ll_S} {p : Nat} {v : Int32} {K : Int32 → ll_S → Prop} (hp : p < 124) (hgot : g 24 0 = v) (h : K v (mF (mK g p v))) : mTl g p K := by
  unfold mTl
  have hi : vp_in (nI p) 124 := vp_in_nI (by omega) (by omega)
  rw [nI_clamp (by omega), hgot]
  simp (disch := decide) only [forall_eq, m_come, ll_w_ne, ll_w_eq, ite_true, hgot]
  unfold mK at h
  refine ⟨hi, fun q => ⟨hi, hi, hi, m_finish ?_⟩, fun q => ⟨hi, hi, hi, m_finish ?_⟩⟩
  · rw [if_pos q] at h
    simp (disch := decide) only [mC, ll_w_ne, ll_w_eq, ite_true] at h ⊢
    exact h
  · rw [if_neg q] at h
    simp (disch := decide) only [mC, ll_w_ne, ll_w_eq, ite_true] at h ⊢
    exact h
theorem sm_resolve {f g : ll_S} (h : ll_Sim f g) (a1 a2 : Int32) : G_La_resolve f a1 a2 (fun r f' => G_Lm_resolve g a1 a2 (fun r' g' => r = r' ∧ ll_Sim f' g')) := by
  obtain ⟨hA, ⟨d, hB⟩, s7, s8⟩ := id h
  obtain ⟨b1, b2, b3, b4, b5, b6, b7, b8, b9⟩ := id hB
  unfold G_La_resolve
  refine x_hasPlace b1 b2 (fun c => ⟨fun _ => ?_, fun q => absurd rfl q⟩) (fun j r hj hjd hr ej er => ⟨fun q => absurd q (by decide), fun _ => ?_⟩)
  · unfold G_Lm_resolve
    rw [b3]
    refine m_in1 b1 (fun _ => ⟨fun _ => ⟨rfl, h⟩, fun q => absurd rfl q⟩) (fun j q1 q2 q3 => ⟨fun q => absurd q (by decide), fun _ => m_in0 (n := 3) rfl (by omega) (fun _ => ⟨fun _ => ⟨rfl, h⟩, fun q => absurd rfl q⟩) (fun r hr er => absurd ⟨j, r, q1, q2, by omega, q3, er⟩ c)⟩)
  subst ej er
  have hp := hA.2.2.2.2 (j * 4 + r - 4) (by omega)
  rw [show j * 4 + r - 4 + 4 = j * 4 + r by omega] at hp
  obtain ⟨p17, p18, v, hv, e13, e16⟩ := hp
  have hi : vp_in (nI (j * 4 + r - 4)) 124 := vp_in_nI (by omega) (by omega)
  have ec : (nI (j * 4 + r - 4)).toNatClampNeg = j * 4 + r - 4 := nI_clamp (by omega)
  unfold G_Lc_hasReference
  rw [x_referredName (by omega) hr]
  refine ⟨fun h8 => ⟨fun q => absurd rfl q, fun _ => ?_⟩, fun h8 => ⟨fun _ => ?_, fun q => absurd q (by decide)⟩⟩
  · have e0 : g 16 (j * 4 + r - 4) = 0 := by
      rw [e16, if_pos]
      rw [e13, show (8 : Int32) = nI 8 from rfl, nI_eq (by omega) (by omega)] at h8
      exact h8
    unfold G_Lm_resolve
    rw [b3]
    refine m_in1 b1 (fun q => absurd ⟨j, hj, hjd, rfl⟩ q) (fun _ _ _ _ => ⟨fun q => absurd q (by decide), fun _ => m_in0 (n := 3) rfl (by omega) (fun q => absurd rfl (ll_out (by omega) q r (by omega))) (fun _ _ _ => ⟨fun q => absurd q (by decide), fun _ => ?_⟩)⟩)
    rw [ll_p4 hj (by omega) hr, ec]
    exact ⟨hi, fun q => absurd e0 q, fun _ => ⟨rfl, h⟩⟩
  · have hv8 : v < 8 := by
      rcases Nat.lt_or_ge v 8 with z | z
      · exact z
      · exact absurd (by rw [e13, show v = 8 by omega]; rfl) h8
    rw [if_neg (by omega)] at e16
    have e0 : ¬ g 16 (j * 4 + r - 4) = 0 := by rw [e16]; exact nI_ne0 (by omega) (by omega)
    rintro f7 rfl
    have hB4 : sB (ll_w f 17 0 0) (ll_w g 26 0 0) 0 d := ⟨b1, b2, b3, b4, b5, b6, b7, b8, by rw [ll_w_eq, ll_w_eq, if_pos rfl, if_pos rfl]⟩
    have mm : ∀ (K : Int32 → ll_S → Prop), ((¬ g 17 (j * 4 + r - 4) = 0 → G_Lm_come (ll_w g 26 0 0) (g 17 (j * 4 + r - 4)) (g 18 (j * 4 + r - 4)) (fun f11 => G_Lm_finish f11 K)) ∧ (g 17 (j * 4 + r - 4) = 0 → G_Lm_begin (ll_w g 26 0 0) (g 12 j) (nI v) (fun f15 => G_Lm_run f15 (fun f17 => ((¬ (f17 24 0) = (-3 : Int32) → mTl f17 (j * 4 + r - 4) K) ∧ ((f17 24 0) = (-3 : Int32) → G_Lm_come f17 (-4) (-3) (fun f32 => mTl f32 (j * 4 + r - 4) K))))))) → G_Lm_resolve g (nI j) (nI r) K := by
      intro K hK
      unfold G_Lm_resolve
      rw [b3]
      refine m_in1 b1 (fun q => absurd ⟨j, hj, hjd, rfl⟩ q) (fun _ _ _ _ => ⟨fun q => absurd q (by decide), fun _ => m_in0 (n := 3) rfl (by omega) (fun q => absurd rfl (ll_out (by omega) q r (by omega))) (fun _ _ _ => ⟨fun q => absurd q (by decide), fun _ => ?_⟩)⟩)
      rw [ll_p4 hj (by omega) hr]
      refine ⟨hi, fun _ => ?_, fun q => absurd (by rw [ec] at q; exact q) e0⟩
      rintro f8 rfl
      refine ⟨hi, fun q => ⟨hi, hi, ?_⟩, fun q => ⟨vp_in_nI (by omega) (by omega), hi, ?_⟩⟩
      · have := hK.1 (by rw [ec] at q; exact q)
        rw [ec]; exact this
      · have := hK.2 (by rw [ec] at q; exact q)
        rw [show (ll_w g 26 0 0) 16 (nI (j * 4 + r - 4)).toNatClampNeg - 1 = nI v by rw [ec]; show g 16 (j * 4 + r - 4) - 1 = nI v; rw [e16]; exact nI_pred v, show (ll_w g 26 0 0) 12 (nI j).toNatClampNeg = g 12 j by rw [nI_clamp (by omega)]; rfl]
        exact this
    rw [x_keptFor (by omega) hr]
    refine ⟨fun hk => ?_, fun hk => ?_⟩
    · rw [x_keptFor (by omega) hr, x_keptCause (by omega) hr]
      refine x_endWith (mm _ ⟨fun q => ?_, fun q => absurd (show f 14 (j * 4 + r) = 0 by rw [← p17]; exact q) hk⟩)
      rw [m_come]
      refine m_finish ?_
      have e24 : (mC (ll_w g 26 0 0) (g 17 (j * 4 + r - 4)) (g 18 (j * 4 + r - 4))) 24 0 = f 14 (j * 4 + r) := by
        simp (disch := decide) only [mC, ll_w_ne, ll_w_eq, ite_true]; exact p17
      refine ⟨e24.symm, sim_fin (f := ll_w f 17 0 0) hA hB4 e24 (fun hn => ?_)⟩
      simp (disch := decide) only [mC, ll_w_ne, ll_w_eq, ite_true]
      exact p18 hn
    · obtain ⟨q11, q12, q13, q14, q15, q16, ⟨L, hL, e9⟩, q18, q19⟩ := b4 j hj hjd
      rw [x_loaderOf (by omega), x_referredName (by omega) hr]
      rw [show (ll_w f 17 0 0) 9 j = nI L from e9, show (ll_w f 17 0 0) 13 (j * 4 + r) = nI v from e13]
      unfold G_La_resolveFrom G_rq
      rw [← nI_0]
      refine rq_all 41 0 rfl (ll_w f 17 0 0) (ll_w g 26 0 0) d L v _ hL hv8 hA hB4 (fun r' f' g' d' hd hR k1 k2 k3 k4 hB' hgot ha => ?_)
      have hA' : sA f' g' := sA.keep (f := f) (g := g) hA k1 k2
      have h23 : g' 23 0 = nI 0 := hB'.2.2.2.2.2.2.2.1
      have fin : ∀ (K : Int32 → ll_S → Prop) (T : ll_S → Prop), (G_Lm_run (mB (ll_w g 26 0 0) 0 (L * 8 + v)) T → True) → True := fun _ _ _ => trivial
      clear fin
      refine ⟨fun hne => ?_, fun he => ?_⟩
      · refine x_tail (by omega) hr (mm _ ⟨fun q => absurd (by rw [p17]; exact hk) q, fun _ => ?_⟩)
        rw [q12, e9, m_begin (dep := 0) (show (ll_w g 26 0 0) 23 0 = nI 0 from b8) (by omega) hL hv8]
        refine m_runfin hR h23 ⟨fun _ => m_tail (by omega) hgot ⟨rfl, ?_⟩, fun q => absurd (by rw [← hgot]; exact q) hne⟩
        exact sim_keep hA' hB' (by omega) (by omega) (ll_aO hB'.1 ha)
      · rw [x_failBecause]
        refine x_tail (by omega) hr (mm _ ⟨fun q => absurd (by rw [p17]; exact hk) q, fun _ => ?_⟩)
        rw [q12, e9, m_begin (dep := 0) (show (ll_w g 26 0 0) 23 0 = nI 0 from b8) (by omega) hL hv8]
        refine m_runfin hR h23 ⟨fun q => absurd (by rw [hgot]; exact he) q, fun _ => ?_⟩
        rw [m_come]
        refine m_tail (g := mC g' (-4) (-3)) (by omega) (by simp (disch := decide) only [mC, ll_w_ne, ll_w_eq, ite_true]) ⟨rfl, ?_⟩
        refine sim_keep (f := ll_w f' 18 0 (-3)) (g := mC g' (-4) (-3)) hA' hB' (by omega) (by omega) (fun _ => ?_)
        simp (disch := decide) only [mC, ll_w_ne, ll_w_eq, ite_true]
