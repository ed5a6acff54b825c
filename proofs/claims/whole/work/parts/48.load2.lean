/-! does a new record break a constraint -/
def BK (f : ll_S) (L n : Nat) (v : Int32) : Prop := ∃ m, m < 5 ∧ bt (f 7 (L * 8 + n)) m = true ∧ ¬ f 5 (m * 8 + n) = 0 ∧ ¬ f 5 (m * 8 + n) = v
theorem x_differ_L {f : ll_S} {s v : Int32} {n : Nat} {K : Int32 → ll_S → Prop} (hn : n < 8) : ∀ (k l : Nat), l ≤ 5 → 6 ≤ l + k → ((∃ m, l ≤ m ∧ m < 5 ∧ bt s m = true ∧ ¬ f 5 (m * 8 + n) = 0 ∧ ¬ f 5 (m * 8 + n) = v) → K 1 f) → ((¬ ∃ m, l ≤ m ∧ m < 5 ∧ bt s m = true ∧ ¬ f 5 (m * 8 + n) = 0 ∧ ¬ f 5 (m * 8 + n) = v) → K 0 f) → G_Lb_differ_L K k 0 s (nI n) v (nI l) f := by
  intro k
  induction k with
  | zero => intro l h1 h2; omega
  | succ k ih =>
    intro l hl hk h1 h0
    rw [G_Lb_differ_L]
    by_cases e : l = 5
    · subst e
      refine ⟨fun _ => h0 ?_, fun q => absurd (by decide) q⟩
      rintro ⟨m, q1, q2, -⟩; omega
    · have next : ¬ (bt s l = true ∧ ¬ f 5 (l * 8 + n) = 0 ∧ ¬ f 5 (l * 8 + n) = v) → G_Lb_differ_L K k 0 s (nI n) v (nI l + 1) f := by
        intro hno
        rw [nI_1]
        refine ih (l + 1) (by omega) (by omega) (fun ⟨m, q1, q2⟩ => h1 ⟨m, by omega, q2⟩) (fun hne => h0 ?_)
        rintro ⟨m, q1, q2, q3⟩
        by_cases em : m = l
        · subst em; exact hno q3
        · exact hne ⟨m, by omega, q2, q3⟩
      refine ⟨fun q => absurd q (nI_ge (a := l) (b := 5) (by omega) (by omega)), fun _ => ?_⟩
      rw [x_recordOf (by omega) hn, x_holds (by omega)]
      refine ⟨fun hb => ⟨fun _ => next (fun q => by rw [hb] at q; exact absurd q.1 (by decide)), fun q => absurd rfl q⟩, fun hb => ⟨fun q => absurd q (by decide), fun _ => ⟨fun hz => next (fun q => q.2.1 hz), fun hz => ⟨fun hv => next (fun q => q.2.2 hv), fun hv => h1 ⟨l, Nat.le_refl l, by omega, by simpa using hb, hz, hv⟩⟩⟩⟩⟩
theorem x_peersDiffer {f : ll_S} {L n : Nat} {v : Int32} {K : Int32 → ll_S → Prop} (hL : L < 5) (hn : n < 8) (h1 : BK f L n v → K 1 f) (h0 : ¬ BK f L n v → K 0 f) : G_Lb_peersDiffer f (nI L) (nI n) v K := by
  unfold G_Lb_peersDiffer G_Lb_differ
  rw [x_cell, nI_clamp (by omega)]
  refine ⟨vp_in_nI (by omega) (by omega), 6, ?_⟩
  rw [← nI_0]
  refine x_differ_L hn 6 0 (by omega) (by omega) (fun ⟨m, _, q⟩ => ⟨Or.inr rfl, h1 ⟨m, q⟩⟩) (fun hne => ⟨Or.inl rfl, ?_⟩)
  exact h0 (fun ⟨m, q⟩ => hne ⟨m, by omega, q⟩)
theorem m_breaks_L {g : ll_S} {v : Int32} {L n : Nat} {K : Int32 → ll_S → Prop} (hL : L < 5) (hn : n < 8) : ∀ (k l : Nat), l ≤ 5 → 6 ≤ l + k → ((∃ m, l ≤ m ∧ m < 5 ∧ g 10 (m * 8 + n) = g 10 (L * 8 + n) ∧ ¬ g 8 (m * 8 + n) ≤ 0 ∧ ¬ g 8 (m * 8 + n) = v) → K 1 g) → ((¬ ∃ m, l ≤ m ∧ m < 5 ∧ g 10 (m * 8 + n) = g 10 (L * 8 + n) ∧ ¬ g 8 (m * 8 + n) ≤ 0 ∧ ¬ g 8 (m * 8 + n) = v) → K 0 g) → G_Lm_breaks_L K k 0 (nI (L * 8 + n)) v (nI l) g := by
  intro k
  induction k with
  | zero => intro l h1 h2; omega
  | succ k ih =>
    intro l hl hk h1 h0
    rw [G_Lm_breaks_L]
    by_cases e : l = 5
    · subst e
      refine ⟨fun _ => h0 ?_, fun q => absurd (by decide) q⟩
      rintro ⟨m, q1, q2, -⟩; omega
    · have next : ¬ (g 10 (l * 8 + n) = g 10 (L * 8 + n) ∧ ¬ g 8 (l * 8 + n) ≤ 0 ∧ ¬ g 8 (l * 8 + n) = v) → G_Lm_breaks_L K k 0 (nI (L * 8 + n)) v (nI l + 1) g := by
        intro hno
        rw [nI_1]
        refine ih (l + 1) (by omega) (by omega) (fun ⟨m, q1, q2⟩ => h1 ⟨m, by omega, q2⟩) (fun hne => h0 ?_)
        rintro ⟨m, q1, q2, q3⟩
        by_cases em : m = l
        · subst em; exact hno q3
        · exact hne ⟨m, by omega, q2, q3⟩
      refine ⟨fun q => absurd q (nI_ge (a := l) (b := 5) (by omega) (by omega)), fun _ => ?_⟩
      rw [ll_mod8 hn (by omega), ll_8c, nI_clamp (by omega), nI_clamp (by omega)]
      have hi : vp_in (nI (l * 8 + n)) 40 := vp_in_nI (by omega) (by omega)
      exact ⟨hi, vp_in_nI (by omega) (by omega), fun hg => next (fun q => hg q.1), fun hg => ⟨hi, fun hz => next (fun q => q.2.1 hz), fun hz => ⟨hi, fun hv => next (fun q => q.2.2 hv), fun hv => h1 ⟨l, Nat.le_refl l, by omega, hg, hz, hv⟩⟩⟩⟩
theorem m_breaks {f g : ll_S} {dep d L n : Nat} {v : Int32} {K : Int32 → ll_S → Prop} (hA : sA f g) (hB : sB f g dep d) (hL : L < 5) (hn : n < 8) (h1 : BK f L n v → K 1 g) (h0 : ¬ BK f L n v → K 0 g) : G_Lm_breaks g (nI (L * 8 + n)) v K := by
  have hd := hB.1
  have key : ∀ m, m < 5 → ((g 10 (m * 8 + n) = g 10 (L * 8 + n) ∧ ¬ g 8 (m * 8 + n) ≤ 0 ∧ ¬ g 8 (m * 8 + n) = v) ↔ (bt (f 7 (L * 8 + n)) m = true ∧ ¬ f 5 (m * 8 + n) = 0 ∧ ¬ f 5 (m * 8 + n) = v)) := by
    intro m hm
    obtain ⟨e8, j, hj, e5⟩ := hB.2.2.2.2.1 (m * 8 + n) (by omega)
    rw [hA.2.2.2.1 L m n hL hm hn, e8, e5]
    have : ¬ nI j ≤ 0 ↔ ¬ nI j = 0 := by
      rw [show (0 : Int32) = nI 0 from rfl, nI_leI (by omega) (by omega), nI_eq (by omega) (by omega)]; omega
    rw [this]
    exact ⟨fun q => ⟨q.1.symm, q.2⟩, fun q => ⟨q.1.symm, q.2⟩⟩
  unfold G_Lm_breaks
  refine ⟨6, ?_⟩
  rw [← nI_0]
  refine m_breaks_L hL hn 6 0 (by omega) (by omega) (fun ⟨m, _, q2, q3⟩ => h1 ⟨m, q2, (key m q2).mp q3⟩) (fun hne => ?_)
  exact h0 (fun ⟨m, q2, q3⟩ => hne ⟨m, by omega, q2, (key m q2).mpr q3⟩)
/-! one request -/
theorem rq_step {rq : xRq} {dep : Nat} (hrq : RqOk rq (dep + 1)) : RqOk (fun f a1 a2 a3 K => G_La_request rq f a1 a2 a3 K) dep := by
  intro f g d L n K hL hn hA hB k
  obtain ⟨b1, b2, b3, b4, b5, b6, b7, b8, b9⟩ := id hB
  have hdep : dep ≤ 40 := by rw [← b7]; exact cnt_le (f 6) 40
  obtain ⟨e8, j, hj, e5⟩ := b5 (L * 8 + n) (by omega)
  obtain ⟨e9, h01⟩ := b6 (L * 8 + n) (by omega)
  show G_La_request rq f (nI L) (nI n) (nI dep) K
  unfold G_La_request
  rintro f1 rfl
  rw [x_recordOf hL hn]
  have eb : g 26 0 + 1 = f 17 0 + 1 := by rw [b9]
  have hB1 : ∀ (v w : Int32), sB (ll_w f 17 0 (f 17 0 + 1)) (mC (ll_w g 26 0 (g 26 0 + 1)) v w) dep d := fun v w => ⟨b1, b2, b3, b4, b5, b6, b7, b8, eb⟩
  refine ⟨fun h0 => ?_, fun h0 => ?_⟩
  · have h0 : f 5 (L * 8 + n) = 0 := h0
    have hle : g 8 (L * 8 + n) ≤ 0 := by rw [e8, h0]; decide
    have hbu : (ll_w f 17 0 (f 17 0 + 1)) 6 (L * 8 + n) = 0 ∨ (ll_w f 17 0 (f 17 0 + 1)) 6 (L * 8 + n) = 1 := h01
    rw [x_isUnderWay hL hn hbu]
    refine ⟨fun hu => ?_, fun hu => ⟨fun hlt => ?_, fun hge => ?_⟩⟩
    · have hu : ¬ f 6 (L * 8 + n) = 0 := hu
      rw [x_fail]
      have em : mB g dep (L * 8 + n) = mC (ll_w g 26 0 (g 26 0 + 1)) (-10) 0 := by unfold mB; rw [if_pos hle, if_neg (by rw [e9]; exact hu)]
      refine k (-10) (ll_w (ll_w f 17 0 (f 17 0 + 1)) 18 0 0) (mC (ll_w g 26 0 (g 26 0 + 1)) (-10) 0) d (Nat.le_refl d) (by rw [em]; exact Rch.refl _) (kS.rf f) (kM.rf g) (kF.rf g dep) (kU.rf f) (hB1 _ _) ?_ (Or.inl ⟨by decide, ?_⟩)
      · simp (disch := decide) only [mC, ll_w_ne, ll_w_eq, ite_true]
      · simp (disch := decide) only [mC, ll_w_ne, ll_w_eq, ite_true]
    · have hu : f 6 (L * 8 + n) = 0 := hu
      rw [show (40 : Int32) = nI 40 from rfl, nI_ltI (by omega) (by omega)] at hlt
      rw [x_setUnderWay1 hL hn]
      have em : mB g dep (L * 8 + n) = mPush g dep (L * 8 + n) := by unfold mB; rw [if_pos hle, if_pos (by rw [e9]; exact hu)]
      have F : FS (ll_w (ll_w f 17 0 (f 17 0 + 1)) 6 (L * 8 + n) 1) (mPush g dep (L * 8 + n)) dep (L * 8 + n) d := by
        refine ⟨hA, ⟨b1, b2, b3, b4, b5, fun c hc => ?_, ?_, ?_, ?_⟩, hlt, by omega, ?_, ?_⟩
        · simp (disch := decide) only [mPush, ll_w_ne, ll_w_eq]
          by_cases e : c = L * 8 + n
          · exact ⟨by rw [if_pos e, if_pos e], Or.inr (by rw [if_pos e])⟩
          · rw [if_neg e, if_neg e]; exact b6 c hc
        · show ll_cnt (upd (f 6) (L * 8 + n) 1) 40 = dep + 1
          rw [cnt_set (by decide) hu, if_pos (by omega), b7]
        · simp (disch := decide) only [mPush, ll_w_ne, ll_w_eq, ite_true]
        · simp (disch := decide) only [mPush, ll_w_ne, ll_w_eq, ite_true]; exact eb
        · simp (disch := decide) only [mPush, ll_w_ne, ll_w_eq, ite_true]
        · simp (disch := decide) only [ll_w_eq, ite_true]
      have kF0 : kF g (mPush g dep (L * 8 + n)) dep := by
        intro i hi
        simp (disch := decide) only [mPush, ll_w_ne, ll_w_eq, if_neg (show ¬ i = dep by omega)]
        exact ⟨trivial, trivial, trivial⟩
      refine fs_sim hrq F rfl hL hn (by simp (disch := decide) only [mPush, ll_w_ne, ll_w_eq, ite_true]; rfl) (by simp (disch := decide) only [mPush, ll_w_ne, ll_w_eq, ite_true]) (fun r f' g' d' hfR => ?_)
      rw [x_setUnderWay0 hL hn]
      obtain ⟨hd, F', k1, k2, k3, k4, hcase⟩ := hfR
      obtain ⟨hA', hB', -, hc40, hat, hbz⟩ := id F'
      obtain ⟨p1, p2, p3, p4, p5, p6, p7, p8, p9⟩ := id hB'
      have kU1 : kU f (ll_w f' 6 (L * 8 + n) 0) := by
        intro c hc
        rw [ll_w_eq]
        by_cases e : c = L * 8 + n
        · rw [if_pos e, e]; exact hu.symm
        · rw [if_neg e, k4 c hc, ll_w_eq, if_neg e]; rfl
      have cnt1 : ll_cnt (upd (f' 6) (L * 8 + n) 0) 40 = dep := by
        have := cnt_clr (b := f' 6) (c := L * 8 + n) (by rw [hbz]; decide) (n := 40)
        rw [if_pos (by omega), p7] at this
        omega
      have bz1 : ∀ (gg : ll_S), gg 9 = upd (g' 9) (L * 8 + n) 0 → ∀ c, c < 40 → gg 9 c = (ll_w f' 6 (L * 8 + n) 0) 6 c ∧ ((ll_w f' 6 (L * 8 + n) 0) 6 c = 0 ∨ (ll_w f' 6 (L * 8 + n) 0) 6 c = 1) := by
        intro gg egg c hc
        rw [egg, ll_w_eq]
        by_cases e : c = L * 8 + n
        · rw [if_pos e]; simp [upd, e]
        · rw [if_neg e]; simpa [upd, e] using p6 c hc
      have fin1 : ∀ (v w : Int32) (f2 : ll_S), v < 0 → (f2 = ll_w f' 6 (L * 8 + n) 0 ∧ f' 18 0 = w ∨ f2 = ll_w (ll_w f' 6 (L * 8 + n) 0) 18 0 0 ∧ w = 0) → Rch (mPush g dep (L * 8 + n)) (mE g' dep (L * 8 + n) v w) → K v f2 := by
        intro v w f2 hv h2 hR
        have s1 : sB (ll_w f' 6 (L * 8 + n) 0) (mE g' dep (L * 8 + n) v w) dep d' := ⟨p1, p2, p3, p4, p5, bz1 _ rfl, cnt1, by simp (disch := decide) only [mE, mC, ll_w_ne, ll_w_eq, ite_true], p9⟩
        have s2 : (mE g' dep (L * 8 + n) v w) 24 0 = v := by simp (disch := decide) only [mE, mC, ll_w_ne, ll_w_eq, ite_true]
        have s3 : (mE g' dep (L * 8 + n) v w) 25 0 = w := by simp (disch := decide) only [mE, mC, ll_w_ne, ll_w_eq, ite_true]
        rcases h2 with ⟨rfl, hw⟩ | ⟨rfl, hw⟩
        · exact k v _ (mE g' dep (L * 8 + n) v w) d' hd (by rw [em]; exact hR) k1 k2 (kF0.trans k3) kU1 s1 s2 (Or.inl ⟨hv, by rw [s3]; exact hw.symm⟩)
        · exact k v _ (mE g' dep (L * 8 + n) v w) d' hd (by rw [em]; exact hR) k1 k2 (kF0.trans k3) kU1 s1 s2 (Or.inl ⟨hv, by rw [s3, hw, ll_w_eq, if_pos rfl]⟩)
      refine ⟨fun hge => ?_, fun hlt2 => ?_⟩
      · rcases hcase with ⟨hneg, -⟩ | ⟨e0, hR⟩ | ⟨i, h1, h2, ei, hgot, hst, hR⟩
        · exact absurd hge (ll_neg hneg)
        · subst e0
          unfold G_La_accept
          refine ⟨fun q => absurd rfl q, fun _ => ?_⟩
          rw [x_fail]
          exact fin1 (-4) 0 _ (by decide) (Or.inr ⟨rfl, rfl⟩) hR
        · subst ei
          have em8 : nI (L * 8 + n) - nI (L * 8 + n) / 8 * 8 = nI n := ll_mod8 hn (by omega)
          have egi : (nI i).toNatClampNeg = i := nI_clamp (by omega)
          have hvi : vp_in (nI i) 31 := vp_in_nI (by omega) (by omega)
          have enm : g' 11 i = f' 8 i := (p4 i h1 h2).1
          unfold G_La_accept
          refine ⟨fun _ => ?_, fun q => absurd q (nI_ne0 (by omega) (by omega))⟩
          rw [x_nameOf (by omega)]
          refine ⟨fun hnm => x_peersDiffer hL hn (fun hbk => ⟨fun q => absurd q (by decide), fun _ => ?_⟩) (fun hbk => ⟨fun _ => ?_, fun q => absurd rfl q⟩), fun hnm => ?_⟩
          · rw [x_fail]
            refine fin1 (-9) 0 _ (by decide) (Or.inr ⟨rfl, rfl⟩) (hR.trans (r_2 (F'.fr hst) (fun K hK => ?_)))
            unfold G_Lm_answered
            rw [hgot, egi, em8, enm]
            exact ⟨fun _ => ⟨hvi, fun _ => m_breaks hA' hB' hL hn (fun _ => ⟨fun q => absurd q (by decide), fun _ => F'.e.mpr hK⟩) (fun q => absurd hbk q), fun q => absurd hnm q⟩, fun q => absurd hge q⟩
          · rw [x_putRecord hL hn]
            have st : Rch g' (mE (ll_w g' 8 (L * 8 + n) (nI i)) dep (L * 8 + n) (nI i) 0) := r_2 (F'.fr hst) (fun K hK => by
              unfold G_Lm_answered
              rw [hgot, egi, em8, enm]
              refine ⟨fun _ => ⟨hvi, fun _ => m_breaks hA' hB' hL hn (fun q => absurd q hbk) (fun _ => ⟨fun _ => ⟨vp_in_nI (by omega) (by omega), ?_⟩, fun q => absurd rfl q⟩), fun q => absurd hnm q⟩, fun q => absurd hge q⟩
              rw [nI_clamp (by omega), hgot]
              rintro f6 rfl
              rw [show (ll_w g' 8 (L * 8 + n) (nI i)) 24 0 = nI i from hgot]
              exact (m_end (g := ll_w g' 8 (L * 8 + n) (nI i)) F'.d (by omega) hat hc40).mpr hK)
            refine k (nI i) _ (mE (ll_w g' 8 (L * 8 + n) (nI i)) dep (L * 8 + n) (nI i) 0) d' hd (by rw [em]; exact hR.trans st) k1 k2 (kF0.trans k3) kU1 ⟨p1, p2, p3, p4, fun c hc => ?_, bz1 _ rfl, cnt1, ?_, p9⟩ ?_ (Or.inr ⟨i, h1, h2, rfl⟩)
            · simp (disch := decide) only [mE, mC, ll_w_ne, ll_w_eq]
              by_cases e : c = L * 8 + n
              · exact ⟨by rw [if_pos e, if_pos e], i, h2, by rw [if_pos e]⟩
              · rw [if_neg e, if_neg e]; exact p5 c hc
            · simp (disch := decide) only [mE, mC, ll_w_ne, ll_w_eq, ite_true]
            · simp (disch := decide) only [mE, mC, ll_w_ne, ll_w_eq, ite_true]
          · rw [x_fail]
            refine fin1 (-5) 0 _ (by decide) (Or.inr ⟨rfl, rfl⟩) (hR.trans (r_2 (F'.fr hst) (fun K hK => ?_)))
            unfold G_Lm_answered
            rw [hgot, egi, em8, enm]
            exact ⟨fun _ => ⟨hvi, fun q => absurd q hnm, fun _ => F'.e.mpr hK⟩, fun q => absurd hge q⟩
      · rcases hcase with ⟨hneg, hR⟩ | ⟨e0, -⟩ | ⟨i, h1, h2, ei, -⟩
        · exact fin1 r (f' 18 0) _ hneg (Or.inl ⟨rfl, rfl⟩) hR
        · exact absurd (by rw [e0]; decide) hlt2
        · exact absurd (by rw [ei]; exact nI_pos' (by omega)) hlt2
    · rw [show (40 : Int32) = nI 40 from rfl, nI_ltI (by omega) (by omega)] at hge
      exact absurd hu (cnt_full (b := f 6) (n := 40) (by omega) (L * 8 + n) (by omega))
  · have h0 : ¬ f 5 (L * 8 + n) = 0 := h0
    have hj1 : 1 ≤ j := by
      rcases Nat.eq_zero_or_pos j with z | z
      · exact absurd (by rw [e5, z]; rfl) h0
      · exact z
    have em : mB g dep (L * 8 + n) = mC (ll_w g 26 0 (g 26 0 + 1)) (g 8 (L * 8 + n)) 0 := by unfold mB; rw [if_neg (by rw [e8, e5]; exact nI_nle (by omega) (by omega))]
    refine k (f 5 (L * 8 + n)) _ (mC (ll_w g 26 0 (g 26 0 + 1)) (g 8 (L * 8 + n)) 0) d (Nat.le_refl d) (by rw [em]; exact Rch.refl _) (kS.rf f) (kM.rf g) (kF.rf g dep) (kU.rf f) (hB1 _ _) ?_ (Or.inr ⟨j, hj1, hj, e5⟩)
    simp (disch := decide) only [mC, ll_w_ne, ll_w_eq, ite_true]
    exact e8
theorem rq_all : ∀ (q dep : Nat), q + dep = 41 → RqOk (G_rqN q) dep
  | 0, dep, h => fun f g d L n K hL hn hA hB k => by
    have := cnt_le (f 6) 40
    have h7 := hB.2.2.2.2.2.2.1
    omega
  | q + 1, dep, h => rq_step (rq_all q (dep + 1) (by omega))
