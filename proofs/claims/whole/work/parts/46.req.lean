/-! a request of the class against the reference's loop -/
def kS (f f' : ll_S) : Prop := f' 0 = f 0 ∧ f' 1 = f 1 ∧ f' 2 = f 2 ∧ f' 3 = f 3 ∧ f' 4 = f 4 ∧ f' 7 = f 7 ∧ f' 13 = f 13 ∧ f' 14 = f 14 ∧ f' 15 = f 15 ∧ f' 19 = f 19 ∧ f' 20 = f 20
def kM (g g' : ll_S) : Prop := g' 0 = g 0 ∧ g' 1 = g 1 ∧ g' 2 = g 2 ∧ g' 3 = g 3 ∧ g' 4 = g 4 ∧ g' 5 = g 5 ∧ g' 6 = g 6 ∧ g' 7 = g 7 ∧ g' 10 = g 10 ∧ g' 16 = g 16 ∧ g' 17 = g 17 ∧ g' 18 = g 18 ∧ g' 27 = g 27 ∧ g' 28 = g 28
theorem kS.rf (f : ll_S) : kS f f := ⟨rfl, rfl, rfl, rfl, rfl, rfl, rfl, rfl, rfl, rfl, rfl⟩
theorem kM.rf (g : ll_S) : kM g g := ⟨rfl, rfl, rfl, rfl, rfl, rfl, rfl, rfl, rfl, rfl, rfl, rfl, rfl, rfl⟩
theorem kS.trans {a b c : ll_S} (h1 : kS a b) (h2 : kS b c) : kS a c := by
  obtain ⟨p1, p2, p3, p4, p5, p6, p7, p8, p9, p10, p11⟩ := h1
  obtain ⟨q1, q2, q3, q4, q5, q6, q7, q8, q9, q10, q11⟩ := h2
  exact ⟨q1.trans p1, q2.trans p2, q3.trans p3, q4.trans p4, q5.trans p5, q6.trans p6, q7.trans p7, q8.trans p8, q9.trans p9, q10.trans p10, q11.trans p11⟩
theorem kM.trans {a b c : ll_S} (h1 : kM a b) (h2 : kM b c) : kM a c := by
  obtain ⟨p1, p2, p3, p4, p5, p6, p7, p8, p9, p10, p11, p12, p13, p14⟩ := h1
  obtain ⟨q1, q2, q3, q4, q5, q6, q7, q8, q9, q10, q11, q12, q13, q14⟩ := h2
  exact ⟨q1.trans p1, q2.trans p2, q3.trans p3, q4.trans p4, q5.trans p5, q6.trans p6, q7.trans p7, q8.trans p8, q9.trans p9, q10.trans p10, q11.trans p11, q12.trans p12, q13.trans p13, q14.trans p14⟩
theorem sA.keep {f g f' g' : ll_S} (h : sA f g) (k1 : kS f f') (k2 : kM g g') : sA f' g' := by
  obtain ⟨p0, p1, p2, p3, p4, p7, p13, p14, p15, -, -⟩ := k1
  obtain ⟨q0, q1, q2, q3, q4, q5, q6, q7, q10, q16, q17, q18, -, -⟩ := k2
  unfold sA at *
  rw [p0, p1, p2, p3, p4, p7, p13, p14, p15, q0, q1, q2, q3, q4, q5, q6, q7, q10, q16, q17, q18]
  exact h
def kF (g g' : ll_S) (dep : Nat) : Prop := ∀ i, i < dep → g' 19 i = g 19 i ∧ g' 20 i = g 20 i ∧ g' 21 i = g 21 i
theorem kF.rf (g : ll_S) (dep : Nat) : kF g g dep := fun _ _ => ⟨rfl, rfl, rfl⟩
theorem kF.trans {a b c : ll_S} {dep : Nat} (h1 : kF a b dep) (h2 : kF b c dep) : kF a c dep := fun i hi => ⟨(h2 i hi).1.trans (h1 i hi).1, (h2 i hi).2.1.trans (h1 i hi).2.1, (h2 i hi).2.2.trans (h1 i hi).2.2⟩
def kU (f f' : ll_S) : Prop := ∀ c, c < 40 → f' 6 c = f 6 c
theorem kU.rf (f : ll_S) : kU f f := fun _ _ => rfl
theorem kU.trans {a b c : ll_S} (h1 : kU a b) (h2 : kU b c) : kU a c := fun k hk => (h2 k hk).trans (h1 k hk)
def aO (r : Int32) (f' g' : ll_S) (d' : Nat) : Prop := (r < 0 ∧ g' 25 0 = f' 18 0) ∨ ∃ j, 1 ≤ j ∧ j ≤ d' ∧ r = nI j
abbrev xRq : Type := ll_S → Int32 → Int32 → Int32 → (Int32 → ll_S → Prop) → Prop
def RqOk (rq : xRq) (e : Nat) : Prop := ∀ (f g : ll_S) (d L n : Nat) (K : Int32 → ll_S → Prop), L < 5 → n < 8 → sA f g → sB f g e d → (∀ (r : Int32) (f' g' : ll_S) (d' : Nat), d ≤ d' → Rch (mB g e (L * 8 + n)) g' → kS f f' → kM g g' → kF g g' e → kU f f' → sB f' g' e d' → g' 24 0 = r → aO r f' g' d' → K r f') → rq f (nI L) (nI n) (nI e) K
def FS (f g : ll_S) (dep c d : Nat) : Prop := sA f g ∧ sB f g (dep + 1) d ∧ dep < 40 ∧ c < 40 ∧ g 19 dep = nI c ∧ f 6 c = 1
theorem FS.d {f g : ll_S} {dep c d : Nat} (F : FS f g dep c d) : g 23 0 = nI (dep + 1) := F.2.1.2.2.2.2.2.2.2.1
theorem FS.fr {f g : ll_S} {dep c d s : Nat} (F : FS f g dep c d) (hs : g 20 dep = nI s) : Fr g dep c s := ⟨F.d, F.2.2.1, F.2.2.2.2.1, F.2.2.2.1, hs⟩
theorem FS.e {f g : ll_S} {dep c d : Nat} (F : FS f g dep c d) {v w : Int32} {K : ll_S → Prop} : G_Lm_end g v w K ↔ K (mE g dep c v w) := m_end F.d (by have := F.2.2.1; omega) F.2.2.2.2.1 F.2.2.2.1
theorem FS.g {f g : ll_S} {dep c d : Nat} (F : FS f g dep c d) {v : Int32} {K : ll_S → Prop} : G_Lm_go g v K ↔ K (mG g dep v) := m_go F.d (by have := F.2.2.1; omega)
def fR (g0 f g : ll_S) (dep c d : Nat) (r : Int32) (f' g' : ll_S) (d' : Nat) : Prop := d ≤ d' ∧ FS f' g' dep c d' ∧ kS f f' ∧ kM g g' ∧ kF g g' dep ∧ kU f f' ∧ ((r < 0 ∧ Rch g0 (mE g' dep c r (f' 18 0))) ∨ (r = 0 ∧ Rch g0 (mE g' dep c (-4) 0)) ∨ ∃ j, 1 ≤ j ∧ j ≤ d' ∧ r = nI j ∧ g' 24 0 = r ∧ g' 20 dep = nI 2 ∧ Rch g0 g')
theorem fR.base {g0 f0 gb f g : ll_S} {dep c d0 d : Nat} {r : Int32} {f' g' : ll_S} {d' : Nat} (hd : d0 ≤ d) (k1 : kS f0 f) (k2 : kM gb g) (k3 : kF gb g dep) (k4 : kU f0 f) (h : fR g0 f g dep c d r f' g' d') : fR g0 f0 gb dep c d0 r f' g' d' :=
  ⟨Nat.le_trans hd h.1, h.2.1, k1.trans h.2.2.1, k2.trans h.2.2.2.1, k3.trans h.2.2.2.2.1, k4.trans h.2.2.2.2.2.1, h.2.2.2.2.2.2⟩
theorem kF_mG (g : ll_S) (dep : Nat) (v : Int32) : kF g (mG g dep v) dep := fun i hi => ⟨rfl, by simp [mG, ll_w, upd, show ¬ i = dep by omega], rfl⟩
theorem mG_at (g : ll_S) (dep : Nat) (v : Int32) : (mG g dep v) 20 dep = v := by simp [mG, ll_w, upd]
theorem ll_neg {r : Int32} (h : r < 0) : ¬ 0 ≤ r := Int32.not_le.mpr h
theorem ask_child {rq : xRq} {f g : ll_S} {dep c d L n : Nat} (t : Nat) {K : Int32 → ll_S → Prop} (hrq : RqOk rq (dep + 1)) (F : FS f g dep c d) (hL : L < 5) (hn : n < 8) (k : ∀ (r : Int32) (f' g' : ll_S) (d' : Nat), d ≤ d' → Rch (mB (mG g dep (nI t)) (dep + 1) (L * 8 + n)) g' → FS f' g' dep c d' → kS f f' → kM g g' → kF g g' dep → kU f f' → g' 20 dep = nI t → g' 21 dep = g 21 dep → g' 24 0 = r → aO r f' g' d' → K r f') : rq f (nI L) (nI n) (nI dep + 1) K := by
  rw [nI_1]
  refine hrq f (mG g dep (nI t)) d L n K hL hn F.1 F.2.1 (fun r f' g' d' hd hR k1 k2 k3 k4 hB hg ha => ?_)
  have h3 := k3 dep (by omega)
  refine k r f' g' d' hd hR ⟨F.1.keep k1 k2, hB, F.2.2.1, F.2.2.2.1, ?_, ?_⟩ k1 k2 (fun i hi => ?_) k4 ?_ h3.2.2 hg ha
  · rw [h3.1]; exact F.2.2.2.2.1
  · rw [k4 c F.2.2.2.1]; exact F.2.2.2.2.2
  · have h4 := k3 i (by omega)
    exact ⟨h4.1, h4.2.1.trans (kF_mG g dep (nI t) i hi).2.1, h4.2.2⟩
  · rw [h3.2.1]; exact mG_at g dep (nI t)
theorem ans2 {f g : ll_S} {dep c d : Nat} {r : Int32} (F : FS f g dep c d) (h2 : g 20 dep = nI 2) (hr : g 24 0 = r) (hn : r < 0) : Rch g (mE g dep c r (g 25 0)) :=
  r_2 (F.fr h2) (fun K hK => by
    unfold G_Lm_answered
    rw [hr]
    exact ⟨fun q => absurd q (ll_neg hn), fun _ => F.e.mpr hK⟩)
/-- a child's answer that is used as it comes -/
theorem child2 {g0 f g : ll_S} {dep c d k : Nat} {r : Int32} {f' g' : ll_S} {d' : Nat} (h0 : Rch g0 (mB (mG g dep (nI 2)) (dep + 1) k)) (hd : d ≤ d') (hR : Rch (mB (mG g dep (nI 2)) (dep + 1) k) g') (F' : FS f' g' dep c d') (k1 : kS f f') (k2 : kM g g') (k3 : kF g g' dep) (k4 : kU f f') (e20 : g' 20 dep = nI 2) (hr : g' 24 0 = r) (ha : aO r f' g' d') : fR g0 f g dep c d r f' g' d' := by
  refine ⟨hd, F', k1, k2, k3, k4, ?_⟩
  rcases ha with ⟨hn, e⟩ | ⟨j, h1, h2, e⟩
  · refine Or.inl ⟨hn, (h0.trans hR).trans ?_⟩
    rw [← e]
    exact ans2 F' e20 hr hn
  · exact Or.inr (Or.inr ⟨j, h1, h2, e, hr, e20, h0.trans hR⟩)
theorem x_parentOf {f : ll_S} {K : Int32 → ll_S → Prop} {L : Nat} (hL : L < 5) : G_Lb_parentOf f (nI L) K ↔ K (f 0 L) f := by
  simp only [G_Lb_parentOf]
  exact ll_idx (P := fun c => K (f 0 c) f) (by omega) (by omega)
/-! making a class -/
def xAdd (f : ll_S) (d : Nat) (a1 a2 a3 a4 a5 : Int32) : ll_S := ll_w (ll_w (ll_w (ll_w (ll_w (ll_w f 16 0 (nI (d + 1))) 8 (d + 1) a1) 9 (d + 1) a2) 10 (d + 1) a3) 11 (d + 1) a4) 12 (d + 1) a5
theorem x_add {f : ll_S} {d : Nat} {a1 a2 a3 a4 a5 : Int32} {K : Int32 → ll_S → Prop} (hd : d < 30) (e : f 16 0 = nI d) : G_Lc_add f a1 a2 a3 a4 a5 K ↔ K (nI (d + 1)) (xAdd f d a1 a2 a3 a4 a5) := by
  have ed : (nI (d + 1)).toNatClampNeg = d + 1 := nI_clamp (by omega)
  have hi : vp_in (nI (d + 1)) 31 := vp_in_nI (by omega) (by omega)
  unfold G_Lc_add xAdd
  simp (disch := decide) only [forall_eq, e, nI_1, ll_w_eq, ll_w_ne, ite_true, ed]
  exact ⟨fun h => h.2.2.2.2.2, fun h => ⟨hi, hi, hi, hi, hi, h⟩⟩
def mMk (g : ll_S) (dep c L n d ab fc : Nat) : ll_S := mG (mC (ll_w (ll_w (ll_w (ll_w (ll_w (ll_w g 22 0 (nI (d + 1))) 11 (d + 1) (nI n)) 12 (d + 1) (nI L)) 13 (d + 1) (nI ab)) 14 (d + 1) (nI fc)) 15 (d + 1) (g 5 c)) (nI (d + 1)) 0) dep 2
theorem m_make {g : ll_S} {dep c L n d ab fc : Nat} {K : ll_S → Prop} (hc : c = L * 8 + n) (hL : L < 5) (hn : n < 8) (hd : g 22 0 = nI d) (hd2 : d < 30) (hdep : dep < 40) (h23 : g 23 0 = nI (dep + 1)) (h21 : g 21 dep = nI (ab + 100 * fc)) (hab : ab < 100) (hfc : fc < 100) (hK : K (mMk g dep c L n d ab fc)) : G_Lm_make g (nI c) K := by
  have ed : (nI (d + 1)).toNatClampNeg = d + 1 := nI_clamp (by omega)
  have ep : (nI dep).toNatClampNeg = dep := nI_clamp (by omega)
  have ec : (nI (L * 8 + n)).toNatClampNeg = L * 8 + n := nI_clamp (by omega)
  have e1 : nI (ab + 100 * fc) - nI (ab + 100 * fc) / 100 * 100 = nI ab := by
    rw [show (100 : Int32) = nI 100 from rfl, pk_rem (by omega) (by omega) (by omega)]; congr 1; omega
  have e2 : nI (ab + 100 * fc) / 100 = nI fc := by
    rw [show (100 : Int32) = nI 100 from rfl, pk_div (by omega) (by omega) (by omega)]; congr 1; omega
  have e3 : nI (L * 8 + n) - nI L * 8 = nI n := by
    have := ll_mod8 (L := L) hn (by omega)
    rwa [ll_div8 hn (by omega)] at this
  have e1 : nI (ab + 100 * fc) - nI fc * 100 = nI ab := by rwa [e2] at e1
  have hi : vp_in (nI (d + 1)) 31 := vp_in_nI (by omega) (by omega)
  have hj : vp_in (nI dep) 41 := vp_in_nI (by omega) (by omega)
  have hk : vp_in (nI (L * 8 + n)) 40 := vp_in_nI (by omega) (by omega)
  subst hc
  unfold G_Lm_make
  refine ⟨fun _ => ?_, fun q => absurd q ?_⟩
  · simp (disch := decide) only [forall_eq, hd, nI_1, ll_w_eq, ll_w_ne, ite_true, ed, h23, nI_pred, ep, h21, e1, e2, e3, ll_div8 hn (show L < 1000 by omega), ec, m_come]
    refine ⟨hi, hi, hj, hi, hj, hi, hk, hi, ?_⟩
    rw [m_go (dep := dep) (by simp (disch := decide) only [mC, ll_w_ne]; exact h23) (by omega)]
    exact hK
  · rw [hd, show (30 : Int32) = nI 30 from rfl, nI_eq (by omega) (by omega)]; omega
theorem ll_fit {a b : Nat} (h : a < b) (hb : b < 2147483648) : nI a < nI b := nI_lt h (by omega)
theorem mk_sim {f g g0 : ll_S} {dep c d L n ab fc : Nat} {mk : Int32} {K : Int32 → ll_S → Prop} (F : FS f g dep c d) (hc : c = L * 8 + n) (hL : L < 5) (hn : n < 8) (h20 : g 20 dep = nI 8) (h21 : g 21 dep = nI (ab + 100 * fc)) (hab : ab ≤ d) (hfc : fc ≤ d) (hmk : g 5 c = mk) (hR : Rch g0 g) (k : ∀ (r : Int32) (f' g' : ll_S) (d' : Nat), fR g0 f g dep c d r f' g' d' → K r f') : ((f 16 0 < (30 : Int32) → G_Lc_add f (nI n) (nI L) (nI ab) (nI fc) mk K) ∧ (¬ f 16 0 < (30 : Int32) → G_La_fail f (-2) K)) := by
  obtain ⟨hA, hB, hdep, hc40, hat, hbz⟩ := id F
  obtain ⟨b1, b2, b3, b4, b5, b6, b7, b8, b9⟩ := id hB
  refine ⟨fun q => ?_, fun q => ?_⟩
  · rw [b2, show (30 : Int32) = nI 30 from rfl, nI_ltI (by omega) (by omega)] at q
    rw [x_add q b2]
    have st := r_8 (F.fr h20) (g' := mMk g dep c L n d ab fc) (fun K hK => m_make hc hL hn b3 q hdep b8 h21 (by omega) (by omega) hK)
    refine k (nI (d + 1)) (xAdd f d (nI n) (nI L) (nI ab) (nI fc) mk) (mMk g dep c L n d ab fc) (d + 1) ⟨by omega, ⟨hA, ⟨by omega, ?_, ?_, ?_, ?_, b6, b7, ?_, b9⟩, hdep, hc40, hat, hbz⟩, kS.rf f, kM.rf g, fun i hi => ⟨rfl, ?_, rfl⟩, kU.rf f, Or.inr (Or.inr ⟨d + 1, by omega, by omega, rfl, ?_, ?_, hR.trans st⟩)⟩
    · simp (disch := decide) only [xAdd, ll_w_ne, ll_w_eq, ite_true]
    · simp (disch := decide) only [mMk, mG, mC, ll_w_ne, ll_w_eq, ite_true]
    · intro i h1 h2
      by_cases e : i = d + 1
      · subst e
        simp (disch := decide) only [xAdd, mMk, mG, mC, ll_w_ne, ll_w_eq, ite_true]
        exact ⟨trivial, trivial, trivial, trivial, hmk, ⟨n, hn, rfl⟩, ⟨L, hL, rfl⟩, ⟨ab, by omega, rfl⟩, ⟨fc, by omega, rfl⟩⟩
      · simp (disch := decide) only [xAdd, mMk, mG, mC, ll_w_ne, ll_w_eq, if_neg e]
        exact b4 i h1 (by omega)
    · intro i hi
      obtain ⟨q1, j, q2, q3⟩ := b5 i hi
      exact ⟨q1, j, by omega, q3⟩
    · exact b8
    · simp (disch := decide) only [mMk, mG, mC, ll_w_ne, ll_w_eq, if_neg (show ¬ i = dep by omega)]
    · simp (disch := decide) only [mMk, mG, mC, ll_w_ne, ll_w_eq, ite_true]
    · simp (disch := decide) only [mMk, mG, mC, ll_w_ne, ll_w_eq, ite_true]; rfl
  · rw [b2, show (30 : Int32) = nI 30 from rfl, nI_ltI (by omega) (by omega)] at q
    rw [x_fail]
    have st := r_8 (F.fr h20) (g' := mE g dep c (-2) 0) (fun K hK => by
      unfold G_Lm_make
      refine ⟨fun z => absurd ?_ z, fun _ => F.e.mpr hK⟩
      rw [b3, show d = 30 by omega]; rfl)
    exact k (-2) (ll_w f 18 0 0) g d ⟨Nat.le_refl d, F, kS.rf f, kM.rf g, kF.rf g dep, kU.rf f, Or.inl ⟨by decide, hR.trans (by simp only [ll_w_eq, ite_true]; exact st)⟩⟩
/-! a part of a file -/
def mAF (g : ll_S) (dep c L v t : Nat) : ll_S := if v = 8 then mG g dep (if t = 5 then 7 else 8) else if g 9 (L * 8 + v) = 0 then mB (mG g dep (nI t)) (dep + 1) (L * 8 + v) else mE g dep c (-7) 0
theorem m_askFor {f g : ll_S} {dep c d L n v t : Nat} {K : ll_S → Prop} (F : FS f g dep c d) (hc : c = L * 8 + n) (hL : L < 5) (hn : n < 8) (hv : v ≤ 8) (ht : t = 5 ∨ t = 6) (hK : K (mAF g dep c L v t)) : G_Lm_askFor g (nI c) (nI v) (nI t) K := by
  have h8 : (8 : Int32) = nI 8 := rfl
  have h5 : (5 : Int32) = nI 5 := rfl
  have hdep := F.2.2.1
  unfold G_Lm_askFor
  unfold mAF at hK
  refine ⟨fun q => ?_, fun q => ⟨fun z => ?_, fun z => ?_⟩⟩
  · have hv8 : v < 8 := by
      rcases Nat.lt_or_ge v 8 with z | z
      · exact z
      · exact absurd (by rw [show v = 8 by omega]; rfl) q
    rw [if_neg (by omega)] at hK
    have e1 : nI c / 8 = nI L := by rw [hc]; exact ll_div8 hn (by omega)
    rw [e1, ll_c8, nI_clamp (by omega)]
    refine ⟨vp_in_nI (by omega) (by omega), fun z => ?_, fun z => ?_⟩
    · rw [if_pos z] at hK
      exact (m_ask F.d hdep hL hv8).mpr hK
    · rw [if_neg z] at hK
      exact F.e.mpr hK
  · rw [h8, nI_eq (by omega) (by omega)] at q
    rw [if_pos q, if_neg (fun y => z (by rw [y]; rfl))] at hK
    exact F.g.mpr hK
  · rw [h8, nI_eq (by omega) (by omega)] at q
    rw [h5, nI_eq (by omega) (by omega)] at z
    rw [if_pos q, if_pos z] at hK
    exact F.g.mpr hK
theorem rs_neg {f g : ll_S} {dep c d t : Nat} {r : Int32} (F : FS f g dep c d) (ht : t = 5 ∨ t = 6) (h2 : g 20 dep = nI t) (hr : g 24 0 = r) (hn : r < 0) (h3 : ¬ r = -3) : Rch g (mE g dep c r (g 25 0)) := by
  have key : ∀ (a : Int32) (K : ll_S → Prop), K (mE g dep c r (g 25 0)) → G_Lm_resolved g (nI c) a K := by
    intro a K hK
    unfold G_Lm_resolved
    rw [hr]
    exact ⟨fun _ => ⟨fun q => absurd q (ll_neg hn), fun _ => F.e.mpr hK⟩, fun q => absurd q h3⟩
  rcases ht with rfl | rfl
  · exact r_5 (F.fr h2) (key _)
  · exact r_6 (F.fr h2) (key _)
theorem rs_nf {f g : ll_S} {dep c d t : Nat} (F : FS f g dep c d) (ht : t = 5 ∨ t = 6) (h2 : g 20 dep = nI t) (hr : g 24 0 = -3) : Rch g (mE g dep c (-4) (-3)) := by
  have key : ∀ (a : Int32) (K : ll_S → Prop), K (mE g dep c (-4) (-3)) → G_Lm_resolved g (nI c) a K := by
    intro a K hK
    unfold G_Lm_resolved
    rw [hr]
    exact ⟨fun q => absurd rfl q, fun _ => F.e.mpr hK⟩
  rcases ht with rfl | rfl
  · exact r_5 (F.fr h2) (key _)
  · exact r_6 (F.fr h2) (key _)
theorem ll_nn {j : Nat} (hj : j < 2147483648) : ¬ nI j = -3 := by
  intro q
  have := congrArg Int32.toInt q
  rw [nI_toInt (by omega), show (-3 : Int32).toInt = -3 from by decide] at this
  omega
theorem rs_5 {f g : ll_S} {dep c d j : Nat} (F : FS f g dep c d) (h2 : g 20 dep = nI 5) (hj : j < 31) (hr : g 24 0 = nI j) : (g 15 j &&& 3 = 0 → Rch g (mG (ll_w g 21 dep (nI j)) dep 7)) ∧ (¬ g 15 j &&& 3 = 0 → Rch g (mE g dep c (-8) 0)) := by
  have hdep := F.2.2.1
  have ej : (nI j).toNatClampNeg = j := nI_clamp (by omega)
  have ep : (nI dep).toNatClampNeg = dep := nI_clamp (by omega)
  refine ⟨fun hz => r_5 (F.fr h2) (fun K hK => ?_), fun hz => r_5 (F.fr h2) (fun K hK => ?_)⟩
  · unfold G_Lm_resolved
    rw [hr, F.d, nI_pred, ej, ep]
    refine ⟨fun _ => ⟨fun _ => ⟨fun q => absurd rfl q, fun _ => ⟨vp_in_nI (by omega) (by omega), fun _ => ⟨vp_in_nI (by omega) (by omega), ?_⟩, fun q => absurd hz q⟩⟩, fun q => absurd (nI_pos' (by omega)) q⟩, fun q => absurd q (ll_nn (by omega))⟩
    simp only [forall_eq]
    exact (m_go (g := ll_w g 21 dep (nI j)) (dep := dep) F.d (by omega)).mpr hK
  · unfold G_Lm_resolved
    rw [hr, F.d, nI_pred, ej, ep]
    exact ⟨fun _ => ⟨fun _ => ⟨fun q => absurd rfl q, fun _ => ⟨vp_in_nI (by omega) (by omega), fun q => absurd q hz, fun _ => F.e.mpr hK⟩⟩, fun q => absurd (nI_pos' (by omega)) q⟩, fun q => absurd q (ll_nn (by omega))⟩
theorem rs_6 {f g : ll_S} {dep c d j : Nat} (F : FS f g dep c d) (h2 : g 20 dep = nI 6) (hj : j < 31) (hr : g 24 0 = nI j) : (¬ g 15 j &&& 1 = 0 → Rch g (mG (ll_w g 21 dep (g 21 dep + 100 * nI j)) dep 8)) ∧ (g 15 j &&& 1 = 0 → Rch g (mE g dep c (-8) 0)) := by
  have hdep := F.2.2.1
  have ej : (nI j).toNatClampNeg = j := nI_clamp (by omega)
  have ep : (nI dep).toNatClampNeg = dep := nI_clamp (by omega)
  refine ⟨fun hz => r_6 (F.fr h2) (fun K hK => ?_), fun hz => r_6 (F.fr h2) (fun K hK => ?_)⟩
  · unfold G_Lm_resolved
    rw [hr, F.d, nI_pred, ej, ep]
    refine ⟨fun _ => ⟨fun _ => ⟨fun _ => ⟨vp_in_nI (by omega) (by omega), fun _ => ⟨vp_in_nI (by omega) (by omega), vp_in_nI (by omega) (by omega), ?_⟩, fun q => absurd q hz⟩, fun q => absurd q (by decide)⟩, fun q => absurd (nI_pos' (by omega)) q⟩, fun q => absurd q (ll_nn (by omega))⟩
    simp only [forall_eq]
    exact (m_go (g := ll_w g 21 dep (g 21 dep + 100 * nI j)) (dep := dep) F.d (by omega)).mpr hK
  · unfold G_Lm_resolved
    rw [hr, F.d, nI_pred, ej, ep]
    exact ⟨fun _ => ⟨fun _ => ⟨fun _ => ⟨vp_in_nI (by omega) (by omega), fun q => absurd hz q, fun _ => F.e.mpr hK⟩, fun q => absurd q (by decide)⟩, fun q => absurd (nI_pos' (by omega)) q⟩, fun q => absurd q (ll_nn (by omega))⟩
theorem rp_sim {rq : xRq} {f g g0 : ll_S} {dep c d L v t : Nat} {K : Int32 → ll_S → Prop} (hrq : RqOk rq (dep + 1)) (F : FS f g dep c d) (hL : L < 5) (hv : v ≤ 8) (ht : t = 5 ∨ t = 6) (hR : Rch g0 (mAF g dep c L v t))
    (k : ∀ (r : Int32) (f' g' : ll_S) (d' : Nat), d ≤ d' → FS f' g' dep c d' → kS f f' → kM g g' → kF g g' dep → kU f f' → g' 21 dep = g 21 dep → ((r < 0 ∧ Rch g0 (mE g' dep c r (f' 18 0))) ∨ (r = 0 ∧ Rch g0 (mG g' dep (if t = 5 then 7 else 8))) ∨ (∃ j, 1 ≤ j ∧ j ≤ d' ∧ r = nI j ∧ g' 24 0 = r ∧ g' 20 dep = nI t ∧ Rch g0 g')) → K r f') : G_La_resolvePart rq f (nI L) (nI v) (nI dep) K := by
  have h8 : (8 : Int32) = nI 8 := rfl
  have hb := F.2.1.2.2.2.2.2.1
  unfold G_La_resolvePart
  refine ⟨fun q => ?_, fun q => ?_⟩
  · have hv8 : v < 8 := by
      rcases Nat.lt_or_ge v 8 with z | z
      · exact z
      · exact absurd (by rw [show v = 8 by omega]; rfl) q
    have hb2 := hb (L * 8 + v) (by omega)
    unfold mAF at hR
    rw [if_neg (by omega)] at hR
    rw [x_isUnderWay hL hv8 hb2.2]
    refine ⟨fun h0 => ?_, fun h0 => ?_⟩
    · rw [if_pos (hb2.1.trans h0)] at hR
      unfold G_La_resolveFrom
      refine ask_child t hrq F hL hv8 (fun r f' g' d' hd hR2 F' k1 k2 k3 k4 e20 e21 hr ha => ⟨fun hne => ?_, fun he => ?_⟩)
      · refine k r f' g' d' hd F' k1 k2 k3 k4 e21 ?_
        rcases ha with ⟨hn, e⟩ | ⟨j, h1, h2, e⟩
        · refine Or.inl ⟨hn, (hR.trans hR2).trans ?_⟩
          rw [← e]
          exact rs_neg F' ht e20 hr hn hne
        · exact Or.inr (Or.inr ⟨j, h1, h2, e, hr, e20, hR.trans hR2⟩)
      · rw [x_failBecause]
        refine k (-4) (ll_w f' 18 0 (-3)) g' d' hd F' k1 k2 k3 k4 e21 (Or.inl ⟨by decide, (hR.trans hR2).trans ?_⟩)
        simp only [ll_w_eq, ite_true]
        exact rs_nf F' ht e20 (by rw [hr, he])
    · rw [if_neg (fun z => h0 (hb2.1.symm.trans z))] at hR
      rw [x_fail]
      refine k (-7) (ll_w f 18 0 0) g d (Nat.le_refl d) F (kS.rf f) (kM.rf g) (kF.rf g dep) (kU.rf f) rfl (Or.inl ⟨by decide, ?_⟩)
      simp only [ll_w_eq, ite_true]
      exact hR
  · rw [h8, nI_eq (by omega) (by omega)] at q
    unfold mAF at hR
    rw [if_pos q] at hR
    exact k 0 f g d (Nat.le_refl d) F (kS.rf f) (kM.rf g) (kF.rf g dep) (kU.rf f) rfl (Or.inr (Or.inl ⟨rfl, hR⟩))
