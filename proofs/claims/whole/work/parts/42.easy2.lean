
theorem ll_Wy_rng {f : ll_S} {a : Int32} {K : Int32 → ll_S → Prop} (h0 : (¬ ∃ w, w ≤ 6 ∧ a = nI w) → K 0 f) (h1 : ∀ w, w ≤ 6 → a = nI w → K 1 f) : ((a < 0 → K 0 f) ∧ (¬ a < 0 → (((6 : Int32) < a → K 0 f) ∧ (¬ (6 : Int32) < a → K 1 f)))) := by
  refine ⟨fun c => h0 ?_, fun c1 => ⟨fun c => h0 ?_, fun c2 => ?_⟩⟩
  · rintro ⟨w, hw, rfl⟩; exact nI_pos (by omega) c
  · rintro ⟨w, hw, rfl⟩; rw [Int32.lt_iff_toInt_lt, nI_toInt (by omega), tI_6] at c; omega
  · rw [Int32.lt_iff_toInt_lt, Int32.toInt_zero] at c1
    rw [Int32.lt_iff_toInt_lt, tI_6] at c2
    exact h1 a.toInt.toNat (by omega) (ll_ofInt (by omega) (by omega))
def ll_Wy (a b : Int32) : Prop := ∃ w, w ≤ 6 ∧ a = nI w ∧ (w = 2 → ∃ m, m < 5 ∧ b = nI m) ∧ ((w = 3 ∨ w = 6) → ∃ m, m < 8 ∧ b = nI m)
theorem ll_nIk {a : Int32} {w k : Nat} (hw : w ≤ 6) (hk : k ≤ 8) (e : a = nI w) (e2 : a = nI k) : w = k := by
  rw [e, nI_eq (by omega) (by omega)] at e2; exact e2
theorem x_isWay {f : ll_S} {a b : Int32} {K : Int32 → ll_S → Prop} (h0 : ¬ ll_Wy a b → K 0 f) (h1 : ll_Wy a b → K 1 f) : G_La_isWay f a b K := by
  unfold G_La_isWay
  have rng : ¬ a = nI 2 → ¬ a = nI 3 → ¬ a = nI 6 → ((a < 0 → K 0 f) ∧ (¬ a < 0 → (((6 : Int32) < a → K 0 f) ∧ (¬ (6 : Int32) < a → K 1 f)))) := by
    intro n2 n3 n6
    refine ll_Wy_rng (fun c => h0 ?_) (fun w hw e => h1 ⟨w, hw, e, fun q => absurd (q ▸ e) n2, fun q => ?_⟩)
    · rintro ⟨w, hw, e, -⟩; exact c ⟨w, hw, e⟩
    · rcases q with q | q
      · exact absurd (q ▸ e) n3
      · exact absurd (q ▸ e) n6
  have nm : ∀ k, (k = 3 ∨ k = 6) → a = nI k → G_Lb_isName f b (fun r f => ll_b01 r ∧ K r f) := by
    intro k hk e
    refine x_isName (fun q => ⟨Or.inl rfl, h0 ?_⟩) (fun j hj ej => ⟨Or.inr rfl, h1 ⟨k, by omega, e, by omega, fun _ => ⟨j, hj, ej⟩⟩⟩)
    rintro ⟨w, hw, e', -, h6⟩
    have := ll_nIk hw (by omega) e' e
    subst this
    obtain ⟨m, hm, em⟩ := h6 hk
    exact ll_out (by omega) q m hm em
  refine ⟨fun c => x_isLoader (fun q => ⟨Or.inl rfl, h0 ?_⟩) (fun j hj ej => ⟨Or.inr rfl, h1 ⟨2, by omega, c, fun _ => ⟨j, hj, ej⟩, by omega⟩⟩), fun n2 => ⟨fun c => nm 3 (by omega) c, fun n3 => ⟨fun c => rng n2 n3 (by rw [c]; decide), fun n4 => ⟨fun c => rng n2 n3 (by rw [c]; decide), fun n5 => ⟨fun c => nm 6 (by omega) c, fun n6 => rng n2 n3 n6⟩⟩⟩⟩⟩
  rintro ⟨w, hw, e', h5, -⟩
  have := ll_nIk hw (show 2 ≤ 8 by omega) e' c
  subst this
  obtain ⟨m, hm, em⟩ := h5 rfl
  exact ll_out (by omega) q m hm em
theorem m_script {g : ll_S} {a3 a4 : Int32} {L n : Nat} {K : Int32 → ll_S → Prop} (hL : L < 5) (hn : n < 8) (h0 : ¬ ll_Wy a3 a4 → K (-1) g) (h1 : ll_Wy a3 a4 → K 0 (ll_w (ll_w g 6 (L * 8 + n) a3) 7 (L * 8 + n) a4)) : G_Lm_script g (nI L) (nI n) a3 a4 K := by
  unfold G_Lm_script
  refine m_place (fun q => absurd ⟨L, n, hL, hn, rfl, rfl⟩ q) (fun _ _ _ _ _ _ => ⟨fun q => absurd q (by decide), fun _ => ?_⟩)
  have hi : vp_in (nI (L * 8 + n)) 40 := vp_in_nI (by omega) (by omega)
  refine m_in0 (n := 6) rfl (by omega) (fun c => ⟨fun _ => h0 ?_, fun q => absurd rfl q⟩) (fun w hw ew => ⟨fun q => absurd q (by decide), fun _ => ?_⟩)
  · rintro ⟨w, hw, e, -⟩; exact ll_out (by omega) c w (by omega) e
  simp only [ll_8c, forall_eq]
  rw [nI_clamp (by omega)]
  have nm : ∀ k, (k = 3 ∨ k = 6) → a3 = nI k → G_Lm_in g a4 0 7 (fun r9 f10 => ((¬ r9 = 0 → (vp_in (nI (L * 8 + n)) 40 ∧ vp_in (nI (L * 8 + n)) 40 ∧ K 0 (ll_w (ll_w f10 6 (L * 8 + n) a3) 7 (L * 8 + n) a4))) ∧ (r9 = 0 → K (-1) f10))) := by
    intro k hk e
    refine m_in0 (n := 7) rfl (by omega) (fun q => ⟨fun z => absurd rfl z, fun _ => h0 ?_⟩) (fun j hj ej => ⟨fun _ => ⟨hi, hi, h1 ⟨k, by omega, e, by omega, fun _ => ⟨j, hj, ej⟩⟩⟩, fun z => absurd z (by decide)⟩)
    rintro ⟨w, hw, e', -, h6⟩
    have := ll_nIk hw (by omega) e' e
    subst this
    obtain ⟨m, hm, em⟩ := h6 hk
    exact ll_out (by omega) q m hm em
  refine ⟨fun n2 => ⟨fun c => nm 3 (by omega) c, fun n3 => ⟨fun n6 => ⟨hi, hi, h1 ⟨w, by omega, ew, fun q => absurd (show a3 = nI 2 from q ▸ ew) n2, fun q => ?_⟩⟩, fun c => nm 6 (by omega) c⟩⟩, fun c2 => m_in0 (n := 4) rfl (by omega) (fun q => ⟨fun _ => h0 ?_, fun z => absurd rfl z⟩) (fun j hj ej => ⟨fun z => absurd z (by decide), fun _ => ⟨fun c => absurd (c2.symm.trans c) (by decide), fun _ => ⟨fun _ => ⟨hi, hi, h1 ⟨2, by omega, c2, fun _ => ⟨j, hj, ej⟩, by omega⟩⟩, fun c => absurd (c2.symm.trans c) (by decide)⟩⟩⟩)⟩
  · rcases q with q | q
    · exact absurd (show a3 = nI 3 from q ▸ ew) n3
    · exact absurd (show a3 = nI 6 from q ▸ ew) n6
  · rintro ⟨w, hw, e', h5, -⟩
    have := ll_nIk hw (show 2 ≤ 8 by omega) e' c2
    subst this
    obtain ⟨m, hm, em⟩ := h5 rfl
    exact ll_out (by omega) q m hm em
theorem sm_script {f g : ll_S} (h : ll_Sim f g) (a1 a2 a3 a4 : Int32) : G_La_script f a1 a2 a3 a4 (fun r f' => G_Lm_script g a1 a2 a3 a4 (fun r' g' => r = r' ∧ ll_Sim f' g')) := by
  unfold G_La_script
  refine x_inRange (fun c => ⟨fun _ => m_place (fun _ => ⟨fun _ => ⟨rfl, h⟩, fun q => absurd rfl q⟩) (fun L n q1 q2 q3 q4 => absurd ⟨L, n, q1, q2, q3, q4⟩ c), fun q => absurd rfl q⟩) (fun L n hL hn e1 e2 => ⟨fun q => absurd q (by decide), fun _ => ?_⟩)
  subst e1 e2
  refine x_isWay (fun c => ⟨fun q => absurd rfl q, fun _ => m_script hL hn (fun _ => ⟨rfl, h⟩) (fun q => absurd q c)⟩) (fun c => ⟨fun _ => ?_, fun q => absurd q (by decide)⟩)
  simp only [G_Lb_setScript, x_cell, forall_eq]
  rw [nI_clamp (by omega)]
  refine ⟨vp_in_nI (by omega) (by omega), vp_in_nI (by omega) (by omega), m_script hL hn (fun q => absurd c q) (fun _ => ⟨rfl, ?_⟩)⟩
  obtain ⟨⟨s1, s2, s3, s4, s5⟩, s6, s7, s8⟩ := h
  refine ⟨⟨s1, s2, fun k hk => ?_, s4, s5⟩, s6, s7, s8⟩
  by_cases e : k = L * 8 + n
  · subst e
    refine ⟨by simp [ll_w, upd], by simp [ll_w, upd], ?_⟩
    obtain ⟨w, hw, ew, h2, h3⟩ := c
    exact ⟨w, hw, by simp [ll_w, upd, ew], by simpa [ll_w, upd] using h2, by simpa [ll_w, upd] using h3⟩
  · have := s3 k hk
    simpa [ll_w, upd, e] using this
/-! refer -/
theorem x_hasPlace {f : ll_S} {a b : Int32} {d : Nat} {K : Int32 → ll_S → Prop} (hd : d ≤ 30) (e : f 16 0 = nI d) (h0 : (¬ ∃ j r, 1 ≤ j ∧ j ≤ d ∧ r < 4 ∧ a = nI j ∧ b = nI r) → K 0 f) (h1 : ∀ j r, 1 ≤ j → j ≤ d → r < 4 → a = nI j → b = nI r → K 1 f) : G_Lc_hasPlace f a b K := by
  unfold G_Lc_hasPlace
  refine x_has hd e (fun c => ⟨fun _ => h0 ?_, fun q => absurd rfl q⟩) (fun j hj hjd ej => ⟨fun q => absurd q (by decide), fun _ => ⟨fun c => h0 ?_, fun c1 => ⟨fun c => h0 ?_, fun c2 => ?_⟩⟩⟩)
  · rintro ⟨j, r, h1, h2, -, e, -⟩; exact c ⟨j, h1, h2, e⟩
  · rintro ⟨j, r, -, -, hr, -, rfl⟩; exact nI_pos (by omega) c
  · rintro ⟨j, r, -, -, hr, -, rfl⟩; rw [Int32.le_iff_toInt_le, nI_toInt (by omega), tI_4] at c; omega
  · rw [Int32.lt_iff_toInt_lt, Int32.toInt_zero] at c1
    rw [Int32.le_iff_toInt_le, tI_4] at c2
    exact h1 j b.toInt.toNat hj hjd (by omega) ej (ll_ofInt (by omega) (by omega))
theorem ll_p4 {j r : Nat} (hj : 1 ≤ j) (hj2 : j ≤ 30) (hr : r < 4) : (4 * nI j + nI r) - 4 = nI (j * 4 + r - 4) := by
  rw [ll_4c, show (4 : Int32) = nI 4 from rfl, pk_sub (by omega)]
theorem m_refer {g : ll_S} {a1 a2 a3 : Int32} {d : Nat} {K : Int32 → ll_S → Prop} (hd : d ≤ 30) (e : g 22 0 = nI d) (h0 : (¬ ∃ j r n, 1 ≤ j ∧ j ≤ d ∧ r < 4 ∧ n < 8 ∧ a1 = nI j ∧ a2 = nI r ∧ a3 = nI n) → K (-1) g) (h1 : ∀ j r n, 1 ≤ j → j ≤ d → r < 4 → n < 8 → a1 = nI j → a2 = nI r → a3 = nI n → (g 17 (j * 4 + r - 4) = 0 → K 0 (ll_w g 16 (j * 4 + r - 4) (nI (n + 1)))) ∧ (¬ g 17 (j * 4 + r - 4) = 0 → K (-1) g)) : G_Lm_refer g a1 a2 a3 K := by
  unfold G_Lm_refer
  rw [e]
  refine m_in1 hd (fun c => ⟨fun _ => h0 ?_, fun q => absurd rfl q⟩) (fun j hj hjd ej => ⟨fun q => absurd q (by decide), fun _ => m_in0 (n := 3) rfl (by omega) (fun c => ⟨fun _ => h0 ?_, fun q => absurd rfl q⟩) (fun r hr er => ⟨fun q => absurd q (by decide), fun _ => m_in0 (n := 7) rfl (by omega) (fun c => ⟨fun _ => h0 ?_, fun q => absurd rfl q⟩) (fun n hn en => ⟨fun q => absurd q (by decide), fun _ => ?_⟩)⟩)⟩)
  · rintro ⟨j, r, n, h1, h2, -, -, e, -⟩; exact c ⟨j, h1, h2, e⟩
  · rintro ⟨j, r, n, -, -, hr, -, -, e, -⟩; exact ll_out (by omega) c r (by omega) e
  · rintro ⟨j, r, n, -, -, -, hn, -, -, e⟩; exact ll_out (by omega) c n (by omega) e
  have h2 := h1 j r n hj hjd (by omega) (by omega) ej er en
  subst ej er en
  rw [ll_p4 hj (by omega) (by omega), nI_clamp (by omega)]
  have hi : vp_in (nI (j * 4 + r - 4)) 124 := vp_in_nI (by omega) (by omega)
  rw [nI_1]
  simp only [forall_eq]
  exact ⟨hi, fun c => ⟨hi, h2.1 c⟩, h2.2⟩
theorem sm_refer {f g : ll_S} (h : ll_Sim f g) (a1 a2 a3 : Int32) : G_La_refer f a1 a2 a3 (fun r f' => G_Lm_refer g a1 a2 a3 (fun r' g' => r = r' ∧ ll_Sim f' g')) := by
  obtain ⟨⟨s1, s2, s3, s4, s5⟩, ⟨d, hB⟩, s7, s8⟩ := id h
  have hd := hB.1
  have e1 := hB.2.1
  have e2 := hB.2.2.1
  unfold G_La_refer
  refine x_hasPlace hd e1 (fun c => ⟨fun _ => m_refer hd e2 (fun _ => ⟨rfl, h⟩) (fun j r n q1 q2 q3 q4 q5 q6 q7 => absurd ⟨j, r, q1, q2, q3, q5, q6⟩ c), fun q => absurd rfl q⟩) (fun j r hj hjd hr ej er => ⟨fun q => absurd q (by decide), fun _ => ?_⟩)
  refine x_isName (fun c => ⟨fun _ => m_refer hd e2 (fun _ => ⟨rfl, h⟩) (fun j r n q1 q2 q3 q4 q5 q6 q7 => absurd q7 (ll_out (by omega) c n q4)), fun q => absurd rfl q⟩) (fun n hn en => ⟨fun q => absurd q (by decide), fun _ => ?_⟩)
  subst ej er en
  have hp := s5 (j * 4 + r - 4) (by omega)
  have e4 : j * 4 + r - 4 + 4 = j * 4 + r := by omega
  rw [e4] at hp
  have mm : ∀ (K : Int32 → ll_S → Prop), ((g 17 (j * 4 + r - 4) = 0 → K 0 (ll_w g 16 (j * 4 + r - 4) (nI (n + 1)))) ∧ (¬ g 17 (j * 4 + r - 4) = 0 → K (-1) g)) → G_Lm_refer g (nI j) (nI r) (nI n) K := by
    intro K hK
    refine m_refer hd e2 (fun q => absurd ⟨j, r, n, hj, hjd, hr, hn, rfl, rfl, rfl⟩ q) (fun j' r' n' q1 q2 q3 q4 q5 q6 q7 => ?_)
    rw [nI_eq (by omega) (by omega)] at q5 q6 q7
    subst q5 q6 q7
    exact hK
  rw [x_keptFor (by omega) hr]
  refine ⟨fun c => ?_, fun c => mm _ ⟨fun q => absurd (by rw [← hp.1]; exact q) c, fun _ => ⟨rfl, h⟩⟩⟩
  simp only [G_Lc_setReference, G_Lc_place, ll_c4, forall_eq]
  rw [nI_clamp (by omega)]
  refine ⟨vp_in_nI (by omega) (by omega), mm _ ⟨fun _ => ⟨rfl, ⟨s1, s2, s3, s4, fun p hp2 => ?_⟩, ⟨d, hB⟩, s7, s8⟩, fun q => absurd (by rw [hp.1]; exact c) q⟩⟩
  by_cases e : p = j * 4 + r - 4
  · subst e
    refine ⟨(s5 _ hp2).1, (s5 _ hp2).2.1, n, by omega, ?_, ?_⟩
    · rw [e4]; simp [ll_w, upd]
    · simp [ll_w, upd, show ¬ n = 8 by omega]
  · have := s5 p hp2
    have e5 : ¬ p + 4 = j * 4 + r := by omega
    simpa [ll_w, upd, e, e5] using this
/-! of -/
theorem sm_of {f g : ll_S} (h : ll_Sim f g) (a1 a2 : Int32) : G_La_of f a1 a2 (fun r f' => G_Lm_of g a1 a2 (fun r' g' => r = r' ∧ ll_Sim f' g')) := by
  obtain ⟨⟨s1, s2, s3, s4, s5⟩, ⟨d, hB⟩, s7, s8⟩ := id h
  have hd := hB.1
  have e1 := hB.2.1
  have e2 := hB.2.2.1
  unfold G_La_of
  refine x_has hd e1 (fun c => ⟨fun q => absurd rfl q, fun _ => ?_⟩) (fun j hj hjd ej => ⟨fun _ => ?_, fun q => absurd q (by decide)⟩)
  · unfold G_Lm_of
    rw [e2]
    exact m_in1 hd (fun _ => ⟨fun q => absurd rfl q, fun _ => ⟨rfl, h⟩⟩) (fun j q1 q2 q3 => absurd ⟨j, q1, q2, q3⟩ c)
  subst ej
  have hc := hB.2.2.2.1 j hj hjd
  have hi : vp_in (nI j) 31 := vp_in_nI (by omega) (by omega)
  have ek : (nI j).toNatClampNeg = j := nI_clamp (by omega)
  have mo : ∀ (T : (Int32 → ll_S → Prop) → Prop) (K : Int32 → ll_S → Prop), (∀ K, G_Lm_of g (nI j) a2 K = G_Lm_in g (nI j) 1 (g 22 0) (fun r1 f2 => ((¬ r1 = 0 → T K) ∧ (r1 = 0 → K (-1) f2)))) → T K → G_Lm_of g (nI j) a2 K := by
    intro T K e hT
    rw [e, e2]
    exact m_in1 hd (fun q => absurd ⟨j, hj, hjd, rfl⟩ q) (fun _ _ _ _ => ⟨fun _ => hT, fun q => absurd q (by decide)⟩)
  have m9 : ∀ (K : Int32 → ll_S → Prop), (∀ r1 : Int32, G_Lm_in g (nI j) 1 (g 22 0) (fun r1 f2 => ((¬ r1 = 0 → True) ∧ (r1 = 0 → True)))) → True := fun _ _ => trivial
  clear m9 mo
  rcases ll_rng a2 9 (by omega) with ho | ⟨t, ht, rfl⟩
  · have hne : ∀ t, t < 9 → ¬ a2 = nI t := fun t ht e => ll_out (by omega) ho t ht e
    refine ⟨fun q => absurd q (hne 0 (by omega)), fun _ => ⟨fun q => absurd q (hne 1 (by omega)), fun _ => ⟨fun q => absurd q (hne 2 (by omega)), fun _ => ⟨fun q => absurd q (hne 3 (by omega)), fun _ => ⟨fun q => absurd q (hne 4 (by omega)), fun _ => ⟨fun q => absurd q (hne 5 (by omega)), fun _ => ⟨fun q => absurd q (hne 6 (by omega)), fun _ => ⟨fun q => absurd q (hne 7 (by omega)), fun _ => ⟨fun q => absurd q (hne 8 (by omega)), fun _ => ?_⟩⟩⟩⟩⟩⟩⟩⟩⟩
    unfold G_Lm_of
    rw [e2]
    refine m_in1 hd (fun q => absurd ⟨j, hj, hjd, rfl⟩ q) (fun _ _ _ _ => ⟨fun _ => ?_, fun q => absurd q (by decide)⟩)
    exact ⟨fun q => absurd q (hne 0 (by omega)), fun _ => ⟨fun q => absurd q (hne 1 (by omega)), fun _ => ⟨fun q => absurd q (hne 2 (by omega)), fun _ => ⟨fun q => absurd q (hne 3 (by omega)), fun _ => ⟨fun q => absurd q (hne 4 (by omega)), fun _ => ⟨fun q => absurd q (hne 5 (by omega)), fun _ => ⟨fun q => absurd q (hne 6 (by omega)), fun _ => ⟨fun q => absurd q (hne 7 (by omega)), fun _ => ⟨fun q => absurd q (hne 8 (by omega)), fun _ => ⟨rfl, h⟩⟩⟩⟩⟩⟩⟩⟩⟩⟩
  · match t, ht with
    | 0, _ => exact ⟨fun _ => by rw [x_nameOf (by omega)]; unfold G_Lm_of; rw [e2]; exact m_in1 hd (fun q => absurd ⟨j, hj, hjd, rfl⟩ q) (fun _ _ _ _ => ⟨fun _ => ⟨fun _ => ⟨hi, by rw [ek]; exact hc.1.symm, h⟩, fun q => absurd (by decide) q⟩, fun q => absurd q (by decide)⟩), fun q => absurd (by decide) q⟩
    | 1, _ => exact ⟨fun q => absurd q (by decide), fun _ => ⟨fun _ => by rw [x_loaderOf (by omega)]; unfold G_Lm_of; rw [e2]; exact m_in1 hd (fun q => absurd ⟨j, hj, hjd, rfl⟩ q) (fun _ _ _ _ => ⟨fun _ => ⟨fun q => absurd q (by decide), fun _ => ⟨fun _ => ⟨hi, by rw [ek]; exact hc.2.1.symm, h⟩, fun q => absurd (by decide) q⟩⟩, fun q => absurd q (by decide)⟩), fun q => absurd (by decide) q⟩⟩
    | 2, _ => exact ⟨fun q => absurd q (by decide), fun _ => ⟨fun q => absurd q (by decide), fun _ => ⟨fun _ => by rw [x_superclassOf (by omega)]; unfold G_Lm_of; rw [e2]; exact m_in1 hd (fun q => absurd ⟨j, hj, hjd, rfl⟩ q) (fun _ _ _ _ => ⟨fun _ => ⟨fun q => absurd q (by decide), fun _ => ⟨fun q => absurd q (by decide), fun _ => ⟨fun _ => ⟨hi, by rw [ek]; exact hc.2.2.1.symm, h⟩, fun q => absurd (by decide) q⟩⟩⟩, fun q => absurd q (by decide)⟩), fun q => absurd (by decide) q⟩⟩⟩
    | 3, _ => exact ⟨fun q => absurd q (by decide), fun _ => ⟨fun q => absurd q (by decide), fun _ => ⟨fun q => absurd q (by decide), fun _ => ⟨fun _ => by rw [x_interfaceOf (by omega)]; unfold G_Lm_of; rw [e2]; exact m_in1 hd (fun q => absurd ⟨j, hj, hjd, rfl⟩ q) (fun _ _ _ _ => ⟨fun _ => ⟨fun q => absurd q (by decide), fun _ => ⟨fun q => absurd q (by decide), fun _ => ⟨fun q => absurd q (by decide), fun _ => ⟨fun _ => ⟨hi, by rw [ek]; exact hc.2.2.2.1.symm, h⟩, fun q => absurd (by decide) q⟩⟩⟩⟩, fun q => absurd q (by decide)⟩), fun q => absurd (by decide) q⟩⟩⟩⟩
    | 4, _ => exact ⟨fun q => absurd q (by decide), fun _ => ⟨fun q => absurd q (by decide), fun _ => ⟨fun q => absurd q (by decide), fun _ => ⟨fun q => absurd q (by decide), fun _ => ⟨fun _ => by rw [x_marksOf (by omega)]; unfold G_Lm_of; rw [e2]; exact m_in1 hd (fun q => absurd ⟨j, hj, hjd, rfl⟩ q) (fun _ _ _ _ => ⟨fun _ => ⟨fun q => absurd q (by decide), fun _ => ⟨fun q => absurd q (by decide), fun _ => ⟨fun q => absurd q (by decide), fun _ => ⟨fun q => absurd q (by decide), fun _ => ⟨fun _ => ⟨hi, by rw [ek]; exact hc.2.2.2.2.1.symm, h⟩, fun q => absurd (by decide) q⟩⟩⟩⟩⟩, fun q => absurd q (by decide)⟩), fun q => absurd (by decide) q⟩⟩⟩⟩⟩
    | 5, _ => exact ⟨fun q => absurd q (by decide), fun _ => ⟨fun q => absurd q (by decide), fun _ => ⟨fun q => absurd q (by decide), fun _ => ⟨fun q => absurd q (by decide), fun _ => ⟨fun q => absurd q (by decide), fun _ => ⟨fun _ => by rw [show nI 5 - 5 = nI 0 from by decide, x_keptFor (by omega) (by omega)]; unfold G_Lm_of; rw [e2]; exact m_in1 hd (fun q => absurd ⟨j, hj, hjd, rfl⟩ q) (fun _ _ _ _ => ⟨fun _ => ⟨fun q => absurd q (by decide), fun _ => ⟨fun q => absurd q (by decide), fun _ => ⟨fun q => absurd q (by decide), fun _ => ⟨fun q => absurd q (by decide), fun _ => ⟨fun q => absurd q (by decide), fun _ => ⟨fun _ => (by rw [ll_4c, show (9 : Int32) = nI 9 from rfl, pk_sub (by omega), nI_clamp (by omega)]; exact ⟨vp_in_nI (by omega) (by omega), by have := (s5 (j * 4 + 5 - 9) (by omega)).1; rw [show j * 4 + 5 - 9 + 4 = j * 4 + 0 by omega] at this; exact this.symm, h⟩), fun q => absurd (by decide) q⟩⟩⟩⟩⟩⟩, fun q => absurd q (by decide)⟩), fun q => absurd (by decide) q⟩⟩⟩⟩⟩⟩
    | 6, _ => exact ⟨fun q => absurd q (by decide), fun _ => ⟨fun q => absurd q (by decide), fun _ => ⟨fun q => absurd q (by decide), fun _ => ⟨fun q => absurd q (by decide), fun _ => ⟨fun q => absurd q (by decide), fun _ => ⟨fun q => absurd q (by decide), fun _ => ⟨fun _ => by rw [show nI 6 - 5 = nI 1 from by decide, x_keptFor (by omega) (by omega)]; unfold G_Lm_of; rw [e2]; exact m_in1 hd (fun q => absurd ⟨j, hj, hjd, rfl⟩ q) (fun _ _ _ _ => ⟨fun _ => ⟨fun q => absurd q (by decide), fun _ => ⟨fun q => absurd q (by decide), fun _ => ⟨fun q => absurd q (by decide), fun _ => ⟨fun q => absurd q (by decide), fun _ => ⟨fun q => absurd q (by decide), fun _ => ⟨fun q => absurd q (by decide), fun _ => ⟨fun _ => (by rw [ll_4c, show (9 : Int32) = nI 9 from rfl, pk_sub (by omega), nI_clamp (by omega)]; exact ⟨vp_in_nI (by omega) (by omega), by have := (s5 (j * 4 + 6 - 9) (by omega)).1; rw [show j * 4 + 6 - 9 + 4 = j * 4 + 1 by omega] at this; exact this.symm, h⟩), fun q => absurd (by decide) q⟩⟩⟩⟩⟩⟩⟩, fun q => absurd q (by decide)⟩), fun q => absurd (by decide) q⟩⟩⟩⟩⟩⟩⟩
    | 7, _ => exact ⟨fun q => absurd q (by decide), fun _ => ⟨fun q => absurd q (by decide), fun _ => ⟨fun q => absurd q (by decide), fun _ => ⟨fun q => absurd q (by decide), fun _ => ⟨fun q => absurd q (by decide), fun _ => ⟨fun q => absurd q (by decide), fun _ => ⟨fun q => absurd q (by decide), fun _ => ⟨fun _ => by rw [show nI 7 - 5 = nI 2 from by decide, x_keptFor (by omega) (by omega)]; unfold G_Lm_of; rw [e2]; exact m_in1 hd (fun q => absurd ⟨j, hj, hjd, rfl⟩ q) (fun _ _ _ _ => ⟨fun _ => ⟨fun q => absurd q (by decide), fun _ => ⟨fun q => absurd q (by decide), fun _ => ⟨fun q => absurd q (by decide), fun _ => ⟨fun q => absurd q (by decide), fun _ => ⟨fun q => absurd q (by decide), fun _ => ⟨fun q => absurd q (by decide), fun _ => ⟨fun q => absurd q (by decide), fun _ => ⟨fun _ => (by rw [ll_4c, show (9 : Int32) = nI 9 from rfl, pk_sub (by omega), nI_clamp (by omega)]; exact ⟨vp_in_nI (by omega) (by omega), by have := (s5 (j * 4 + 7 - 9) (by omega)).1; rw [show j * 4 + 7 - 9 + 4 = j * 4 + 2 by omega] at this; exact this.symm, h⟩), fun q => absurd (by decide) q⟩⟩⟩⟩⟩⟩⟩⟩, fun q => absurd q (by decide)⟩), fun q => absurd (by decide) q⟩⟩⟩⟩⟩⟩⟩⟩
    | 8, _ => exact ⟨fun q => absurd q (by decide), fun _ => ⟨fun q => absurd q (by decide), fun _ => ⟨fun q => absurd q (by decide), fun _ => ⟨fun q => absurd q (by decide), fun _ => ⟨fun q => absurd q (by decide), fun _ => ⟨fun q => absurd q (by decide), fun _ => ⟨fun q => absurd q (by decide), fun _ => ⟨fun q => absurd q (by decide), fun _ => ⟨fun _ => by rw [show nI 8 - 5 = nI 3 from by decide, x_keptFor (by omega) (by omega)]; unfold G_Lm_of; rw [e2]; exact m_in1 hd (fun q => absurd ⟨j, hj, hjd, rfl⟩ q) (fun _ _ _ _ => ⟨fun _ => ⟨fun q => absurd q (by decide), fun _ => ⟨fun q => absurd q (by decide), fun _ => ⟨fun q => absurd q (by decide), fun _ => ⟨fun q => absurd q (by decide), fun _ => ⟨fun q => absurd q (by decide), fun _ => ⟨fun q => absurd q (by decide), fun _ => ⟨fun q => absurd q (by decide), fun _ => ⟨fun q => absurd q (by decide), fun _ => ⟨fun _ => (by rw [ll_4c, show (9 : Int32) = nI 9 from rfl, pk_sub (by omega), nI_clamp (by omega)]; exact ⟨vp_in_nI (by omega) (by omega), by have := (s5 (j * 4 + 8 - 9) (by omega)).1; rw [show j * 4 + 8 - 9 + 4 = j * 4 + 3 by omega] at this; exact this.symm, h⟩), fun q => absurd (by decide) q⟩⟩⟩⟩⟩⟩⟩⟩⟩, fun q => absurd q (by decide)⟩), fun q => absurd (by decide) q⟩⟩⟩⟩⟩⟩⟩⟩⟩
    | t + 9, ht => omega
