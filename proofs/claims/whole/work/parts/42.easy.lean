theorem tI_m1 : (-1 : Int32).toInt = -1 := by decide
theorem tI_1 : (1 : Int32).toInt = 1 := by decide
theorem tI_2 : (2 : Int32).toInt = 2 := by decide
theorem tI_3 : (3 : Int32).toInt = 3 := by decide
theorem tI_4 : (4 : Int32).toInt = 4 := by decide
theorem tI_5 : (5 : Int32).toInt = 5 := by decide
theorem tI_6 : (6 : Int32).toInt = 6 := by decide
theorem tI_7 : (7 : Int32).toInt = 7 := by decide
theorem tI_8 : (8 : Int32).toInt = 8 := by decide
theorem tI_728 : (728 : Int32).toInt = 728 := by decide
theorem ll_ofInt {a : Int32} {n : Nat} (h : a.toInt = (n : Int)) (hn : n < 2147483648) : a = nI n := Int32.toInt_inj.mp (by rw [h, nI_toInt (by omega)])
theorem m_in {g : ll_S} {a lo hi : Int32} {K : Int32 → ll_S → Prop} (h0 : ¬ (lo.toInt ≤ a.toInt ∧ a.toInt ≤ hi.toInt) → K 0 g) (h1 : lo.toInt ≤ a.toInt → a.toInt ≤ hi.toInt → K 1 g) : G_Lm_in g a lo hi K := by
  unfold G_Lm_in
  simp only [Int32.lt_iff_toInt_lt]
  exact ⟨fun c => h0 (by omega), fun c1 => ⟨fun c => h0 (by omega), fun c2 => h1 (by omega) (by omega)⟩⟩
/-! parent -/
theorem x_parent {f : ll_S} {a1 a2 : Int32} {K : Int32 → ll_S → Prop} (h0 : ¬ (1 ≤ a1.toInt ∧ a1.toInt ≤ 4 ∧ -1 ≤ a2.toInt ∧ a2.toInt < a1.toInt) → K (-1) f) (h1 : (1 ≤ a1.toInt ∧ a1.toInt ≤ 4 ∧ -1 ≤ a2.toInt ∧ a2.toInt < a1.toInt) → K 0 (ll_w f 0 a1.toNatClampNeg a2)) : G_La_parent f a1 a2 K := by
  unfold G_La_parent G_Lb_setParent
  simp only [Int32.lt_iff_toInt_lt, Int32.le_iff_toInt_le, tI_1, tI_5, tI_m1, forall_eq]
  refine ⟨fun c => h0 (by omega), fun c1 => ⟨fun c => h0 (by omega), fun c2 => ⟨fun c => h0 (by omega), fun c3 => ⟨fun c4 => ⟨?_, h1 (by omega)⟩, fun c => h0 (by omega)⟩⟩⟩⟩
  rw [vp_in_iff]; omega
theorem m_parent {g : ll_S} {a1 a2 : Int32} {K : Int32 → ll_S → Prop} (h0 : ¬ (1 ≤ a1.toInt ∧ a1.toInt ≤ 4 ∧ -1 ≤ a2.toInt ∧ a2.toInt < a1.toInt) → K (-1) g) (h1 : (1 ≤ a1.toInt ∧ a1.toInt ≤ 4 ∧ -1 ≤ a2.toInt ∧ a2.toInt < a1.toInt) → K 0 (ll_w g 0 a1.toNatClampNeg a2)) : G_Lm_parent g a1 a2 K := by
  unfold G_Lm_parent
  refine m_in (fun c => ⟨fun _ => h0 ?_, fun q => absurd rfl q⟩) (fun c1 c2 => ⟨fun q => absurd q (by decide), fun _ => ?_⟩)
  · simp only [tI_1, tI_4] at c; omega
  · simp only [tI_1, tI_4] at c1 c2
    have e : a1 = nI a1.toInt.toNat := ll_ofInt (by omega) (by omega)
    have e2 : (a1 - 1).toInt = a1.toInt - 1 := by
      rw [e, show (1 : Int32) = nI 1 from rfl, pk_sub_toInt (by omega) (by omega), nI_toInt (by omega)]; rfl
    refine m_in (fun c => ⟨fun q => absurd rfl q, fun _ => h0 ?_⟩) (fun c3 c4 => ⟨fun _ => ⟨?_, ?_⟩, fun q => absurd q (by decide)⟩)
    · simp only [tI_m1, e2] at c; omega
    · rw [vp_in_iff]; omega
    · simp only [forall_eq]
      simp only [tI_m1, e2] at c3 c4
      exact h1 (by omega)
theorem sm_parent {f g : ll_S} (h : ll_Sim f g) (a1 a2 : Int32) : G_La_parent f a1 a2 (fun r f' => G_Lm_parent g a1 a2 (fun r' g' => r = r' ∧ ll_Sim f' g')) := by
  refine x_parent (fun hv => m_parent (fun _ => ⟨rfl, h⟩) (fun q => absurd q hv)) (fun hv => m_parent (fun q => absurd hv q) (fun _ => ⟨rfl, ?_⟩))
  obtain ⟨⟨s1, s2, s3, s4, s5⟩, s6, s7, s8⟩ := h
  refine ⟨⟨fun l hl => ?_, s2, s3, s4, s5⟩, s6, s7, s8⟩
  rw [ll_w_eq, ll_w_eq]
  by_cases e : l = a1.toNatClampNeg
  · rw [if_pos e, if_pos e]
    refine ⟨rfl, ?_⟩
    by_cases e2 : a2.toInt = -1
    · exact Or.inl (Int32.toInt_inj.mp (by rw [e2, tI_m1]))
    · exact Or.inr ⟨a2.toInt.toNat, by omega, ll_ofInt (by omega) (by omega)⟩
  · rw [if_neg e, if_neg e]
    exact s1 l hl
/-! file -/
def ll_Vf (a1 a2 a3 a4 : Int32) : Prop := ∃ L n v m, L < 5 ∧ n < 8 ∧ v ≤ 728 ∧ v % 9 < 8 ∧ m ≤ 7 ∧ a1 = nI L ∧ a2 = nI n ∧ a3 = nI v ∧ a4 = nI m
theorem x_file {f : ll_S} {a1 a2 a3 a4 : Int32} {K : Int32 → ll_S → Prop} (h0 : ¬ ll_Vf a1 a2 a3 a4 → K (-1) f) (h1 : ∀ L n v m, L < 5 → n < 8 → v ≤ 728 → v % 9 < 8 → m ≤ 7 → a1 = nI L → a2 = nI n → a3 = nI v → a4 = nI m → K 0 (ll_w (ll_w f 1 (L * 8 + n) (nI v)) 2 (L * 8 + n) (nI m))) : G_La_file f a1 a2 a3 a4 K := by
  unfold G_La_file
  refine x_inRange (fun c => ⟨fun _ => h0 ?_, fun q => absurd rfl q⟩) (fun L n hL hn e1 e2 => ⟨fun q => absurd q (by decide), fun _ => ?_⟩)
  · rintro ⟨L, n, v, m, hL, hn, -, -, -, e1, e2, -, -⟩; exact c ⟨L, n, hL, hn, e1, e2⟩
  subst e1 e2
  unfold G_Lb_isFile
  have bad : ¬ ll_Vf (nI L) (nI n) a3 a4 → ((¬ (0 : Int32) = 0 → G_Lb_putFile f (nI L) (nI n) a3 a4 (fun f8 => K 0 f8)) ∧ ((0 : Int32) = 0 → K (-1) f)) := fun c => ⟨fun q => absurd rfl q, fun _ => h0 c⟩
  refine ⟨fun c => bad ?_, fun c1 => ⟨fun c => bad ?_, fun c2 => ?_⟩⟩
  · rintro ⟨L', n', v, m, -, -, hv, -, -, -, -, rfl, -⟩; exact nI_pos (by omega) c
  · rintro ⟨L', n', v, m, -, -, hv, -, -, -, -, rfl, -⟩; rw [Int32.lt_iff_toInt_lt, nI_toInt (by omega), tI_728] at c; omega
  rw [Int32.lt_iff_toInt_lt, Int32.toInt_zero] at c1
  rw [Int32.lt_iff_toInt_lt, tI_728] at c2
  obtain ⟨v, hv, rfl⟩ : ∃ v, v ≤ 728 ∧ a3 = nI v := ⟨a3.toInt.toNat, by omega, ll_ofInt (by omega) (by omega)⟩
  rw [ll_rem9 hv]
  refine x_isName (fun c => ⟨fun _ => bad ?_, fun q => absurd rfl q⟩) (fun w hw ew => ⟨fun q => absurd q (by decide), fun _ => ⟨fun c => bad ?_, fun c3 => ⟨fun c => bad ?_, fun c4 => ?_⟩⟩⟩)
  · rintro ⟨L', n', v', m, -, -, hv', h8, -, -, -, e, -⟩
    rw [nI_eq (by omega) (by omega)] at e; subst e
    exact ll_out (by omega) c (v % 9) h8 rfl
  · rintro ⟨L', n', v', m, -, -, -, -, hm, -, -, -, rfl⟩; exact nI_pos (by omega) c
  · rintro ⟨L', n', v', m, -, -, -, -, hm, -, -, -, rfl⟩; rw [Int32.lt_iff_toInt_lt, nI_toInt (by omega), tI_7] at c; omega
  rw [Int32.lt_iff_toInt_lt, Int32.toInt_zero] at c3
  rw [Int32.lt_iff_toInt_lt, tI_7] at c4
  obtain ⟨m, hm, rfl⟩ : ∃ m, m ≤ 7 ∧ a4 = nI m := ⟨a4.toInt.toNat, by omega, ll_ofInt (by omega) (by omega)⟩
  rw [nI_eq (by omega) (by omega)] at ew
  refine ⟨fun _ => ?_, fun q => absurd q (by decide)⟩
  simp only [G_Lb_putFile, x_cell, forall_eq]
  rw [nI_clamp (by omega)]
  exact ⟨vp_in_nI (by omega) (by omega), vp_in_nI (by omega) (by omega), h1 L n v m hL hn hv (by omega) hm rfl rfl rfl rfl⟩
def ll_mfile (g : ll_S) (c v m : Nat) : ll_S := ll_w (ll_w (ll_w (ll_w (ll_w g 1 c 1) 2 c (nI (v % 9))) 3 c (nI (v / 9 % 9))) 4 c (nI (v / 81))) 5 c (nI m)
theorem m_file {g : ll_S} {a1 a2 a3 a4 : Int32} {K : Int32 → ll_S → Prop} (h0 : ¬ ll_Vf a1 a2 a3 a4 → K (-1) g) (h1 : ∀ L n v m, L < 5 → n < 8 → v ≤ 728 → v % 9 < 8 → m ≤ 7 → a1 = nI L → a2 = nI n → a3 = nI v → a4 = nI m → K 0 (ll_mfile g (L * 8 + n) v m)) : G_Lm_file g a1 a2 a3 a4 K := by
  unfold G_Lm_file
  refine m_place (fun c => ⟨fun _ => h0 ?_, fun q => absurd rfl q⟩) (fun L n hL hn e1 e2 => ⟨fun q => absurd q (by decide), fun _ => ?_⟩)
  · rintro ⟨L, n, v, m, hL, hn, -, -, -, e1, e2, -, -⟩; exact c ⟨L, n, hL, hn, e1, e2⟩
  subst e1 e2
  refine m_in0 (n := 728) rfl (by omega) (fun c => ⟨fun _ => h0 ?_, fun q => absurd rfl q⟩) (fun v hv e3 => ⟨fun q => absurd q (by decide), fun _ => ?_⟩)
  · rintro ⟨L', n', v, m, -, -, hv, -, -, -, -, e, -⟩; exact ll_out (by omega) c v (by omega) e
  subst e3
  rw [ll_rem9 (by omega)]
  refine ⟨fun c => h0 ?_, fun c1 => m_in0 (n := 7) rfl (by omega) (fun c => ⟨fun q => absurd rfl q, fun _ => h0 ?_⟩) (fun m hm e4 => ⟨fun _ => ?_, fun q => absurd q (by decide)⟩)⟩
  · rintro ⟨L', n', v', m, -, -, hv', h8, -, -, -, e, -⟩
    rw [nI_eq (by omega) (by omega)] at e; subst e
    rw [show (8 : Int32) = nI 8 from rfl, nI_eq (by omega) (by omega)] at c; omega
  · rintro ⟨L', n', v', m, -, -, -, -, hm, -, -, -, e⟩; exact ll_out (by omega) c m (by omega) e
  subst e4
  rw [show (8 : Int32) = nI 8 from rfl, nI_eq (by omega) (by omega)] at c1
  simp only [ll_8c, forall_eq, ll_nar1, ll_dr9 (show v ≤ 728 by omega), ll_div81 (show v ≤ 728 by omega)]
  rw [nI_clamp (by omega)]
  have hi : vp_in (nI (L * 8 + n)) 40 := vp_in_nI (by omega) (by omega)
  exact ⟨hi, hi, hi, hi, hi, h1 L n v m hL hn (by omega) (by omega) (by omega) rfl rfl rfl rfl⟩
theorem sm_file {f g : ll_S} (h : ll_Sim f g) (a1 a2 a3 a4 : Int32) : G_La_file f a1 a2 a3 a4 (fun r f' => G_Lm_file g a1 a2 a3 a4 (fun r' g' => r = r' ∧ ll_Sim f' g')) := by
  refine x_file (fun hv => m_file (fun _ => ⟨rfl, h⟩) (fun L n v m q1 q2 q3 q4 q5 e1 e2 e3 e4 => absurd ⟨L, n, v, m, q1, q2, q3, q4, q5, e1, e2, e3, e4⟩ hv)) ?_
  intro L n v m hL hn hv h8 hm e1 e2 e3 e4
  refine m_file (fun q => absurd ⟨L, n, v, m, hL, hn, hv, h8, hm, e1, e2, e3, e4⟩ q) ?_
  intro L' n' v' m' hL' hn' hv' h8' hm' e1' e2' e3' e4'
  rw [e1, nI_eq (by omega) (by omega)] at e1'
  rw [e2, nI_eq (by omega) (by omega)] at e2'
  rw [e3, nI_eq (by omega) (by omega)] at e3'
  rw [e4, nI_eq (by omega) (by omega)] at e4'
  subst e1' e2' e3' e4'
  refine ⟨rfl, ?_⟩
  obtain ⟨⟨s1, s2, s3, s4, s5⟩, s6, s7, s8⟩ := h
  refine ⟨⟨s1, fun c hc => ?_, s3, s4, s5⟩, s6, s7, s8⟩
  by_cases e : c = L * 8 + n
  · subst e
    refine Or.inr ⟨v, hv, h8, ?_, ?_, ?_, ?_, ?_, ?_⟩ <;> simp [ll_mfile, ll_w, upd]
  · have := s2 c hc
    simpa [ll_mfile, ll_w, upd, e] using this
/-! noFile -/
theorem sm_noFile {f g : ll_S} (h : ll_Sim f g) (a1 a2 : Int32) : G_La_noFile f a1 a2 (fun r f' => G_Lm_noFile g a1 a2 (fun r' g' => r = r' ∧ ll_Sim f' g')) := by
  unfold G_La_noFile
  refine x_inRange (fun c => ⟨fun _ => m_place (fun _ => ⟨fun _ => ⟨rfl, h⟩, fun q => absurd rfl q⟩) (fun L n q1 q2 q3 q4 => absurd ⟨L, n, q1, q2, q3, q4⟩ c), fun q => absurd rfl q⟩) (fun L n hL hn e1 e2 => ⟨fun q => absurd q (by decide), fun _ => ?_⟩)
  subst e1 e2
  have mm : ∀ (K : Int32 → ll_S → Prop), (g 1 (L * 8 + n) = 0 → K (-1) g) → (¬ g 1 (L * 8 + n) = 0 → K 0 (ll_w g 1 (L * 8 + n) 0)) → G_Lm_noFile g (nI L) (nI n) K := by
    intro K k0 k1
    unfold G_Lm_noFile
    refine m_place (fun q => absurd ⟨L, n, hL, hn, rfl, rfl⟩ q) (fun _ _ _ _ _ _ => ⟨fun q => absurd q (by decide), fun _ => ?_⟩)
    simp only [ll_8c, forall_eq, ll_nar0]
    rw [nI_clamp (by omega)]
    have hi : vp_in (nI (L * 8 + n)) 40 := vp_in_nI (by omega) (by omega)
    exact ⟨hi, fun c => ⟨hi, k1 c⟩, fun c => k0 c⟩
  obtain ⟨⟨s1, s2, s3, s4, s5⟩, s6, s7, s8⟩ := id h
  rw [x_hasFile hL hn]
  refine ⟨fun c => ⟨fun q => absurd rfl q, fun _ => mm _ (fun _ => ⟨rfl, h⟩) (fun q => absurd ?_ q)⟩, fun c => ⟨fun _ => ?_, fun q => absurd q (by decide)⟩⟩
  · rcases s2 (L * 8 + n) (by omega) with q | ⟨v, q1, -, q2, -⟩
    · exact q.2
    · rw [q2] at c; exact absurd c (by intro z; have := congrArg Int32.toInt z; rw [nI_toInt (by omega), tI_m1] at this; omega)
  · simp only [G_Lb_dropFile, x_cell, forall_eq]
    rw [nI_clamp (by omega)]
    refine ⟨vp_in_nI (by omega) (by omega), mm _ (fun q => ?_) (fun _ => ⟨rfl, ⟨s1, fun c hc => ?_, s3, s4, s5⟩, s6, s7, s8⟩)⟩
    · rcases s2 (L * 8 + n) (by omega) with q' | ⟨v, -, -, -, q2, -⟩
      · exact absurd q'.1 c
      · rw [q2] at q; exact absurd q (by decide)
    · by_cases e : c = L * 8 + n
      · subst e; exact Or.inl ⟨by simp [ll_w, upd], by simp [ll_w, upd]⟩
      · have := s2 c hc
        simpa [ll_w, upd, e] using this
/-! recorded, requests, cause -/
theorem sm_recorded {f g : ll_S} (h : ll_Sim f g) (a1 a2 : Int32) : G_La_recorded f a1 a2 (fun r f' => G_Lm_recorded g a1 a2 (fun r' g' => r = r' ∧ ll_Sim f' g')) := by
  unfold G_La_recorded
  refine x_inRange (fun c => ⟨fun _ => m_place (fun _ => ⟨fun _ => ⟨rfl, h⟩, fun q => absurd rfl q⟩) (fun L n q1 q2 q3 q4 => absurd ⟨L, n, q1, q2, q3, q4⟩ c), fun q => absurd rfl q⟩) (fun L n hL hn e1 e2 => ⟨fun q => absurd q (by decide), fun _ => ?_⟩)
  subst e1 e2
  rw [x_recordOf hL hn]
  refine m_place (fun q => absurd ⟨L, n, hL, hn, rfl, rfl⟩ q) (fun _ _ _ _ _ _ => ⟨fun q => absurd q (by decide), fun _ => ?_⟩)
  simp only [ll_8c]
  rw [nI_clamp (by omega)]
  obtain ⟨d, hB⟩ := h.2.1
  exact ⟨vp_in_nI (by omega) (by omega), (hB.2.2.2.2.1 _ (by omega)).1.symm, h⟩
theorem sm_requests {f g : ll_S} (h : ll_Sim f g) : G_La_requests f (fun r f' => G_Lm_requests g (fun r' g' => r = r' ∧ ll_Sim f' g')) := by
  obtain ⟨d, hB⟩ := h.2.1
  exact ⟨hB.2.2.2.2.2.2.2.2.symm, h⟩
theorem sm_cause {f g : ll_S} (h : ll_Sim f g) (a1 : Int32) : G_La_cause f a1 (fun r f' => G_Lm_cause g a1 (fun r' g' => r = r' ∧ ll_Sim f' g')) := by
  obtain ⟨-, -, e1, e2⟩ := id h
  unfold G_La_cause G_Lm_cause
  rw [e1, e2]
  refine ⟨fun c1 => ⟨fun c2 => ⟨fun q => absurd rfl q, fun _ => ⟨fun _ => ⟨fun _ => ⟨rfl, h⟩, fun q => absurd q c2⟩, fun q => absurd q c1⟩⟩, fun c2 => ⟨fun c3 => ⟨fun _ => ⟨fun q => absurd c2 q, fun _ => ⟨fun q => absurd q c3, fun _ => ⟨rfl, h⟩⟩⟩, fun q => absurd q c1⟩, fun c3 => ⟨fun _ => ⟨fun q => absurd c2 q, fun _ => ⟨fun _ => ⟨rfl, h⟩, fun q => absurd c3 q⟩⟩, fun q => absurd q c1⟩⟩⟩, fun c1 => ⟨fun c2 => ⟨fun q => absurd c1 q, fun _ => ⟨fun q => absurd q c2, fun _ => ⟨rfl, h⟩⟩⟩, fun c2 => ⟨fun q => absurd c1 q, fun _ => ⟨fun _ => ⟨fun _ => ⟨rfl, h⟩, fun q => absurd (c1.symm.trans q) (by decide)⟩, fun q => absurd c2 q⟩⟩⟩⟩
/-! agree -/
theorem sm_agree {f g : ll_S} (h : ll_Sim f g) (a1 a2 a3 : Int32) : G_La_agree f a1 a2 a3 (fun r f' => G_Lm_agree g a1 a2 a3 (fun r' g' => r = r' ∧ ll_Sim f' g')) := by
  unfold G_La_agree
  refine x_inRange (fun c => ⟨fun _ => m_place (fun _ => ⟨fun _ => ⟨rfl, h⟩, fun q => absurd rfl q⟩) (fun L n q1 q2 q3 q4 => absurd ⟨L, n, q1, q2, q3, q4⟩ c), fun q => absurd rfl q⟩) (fun L n hL hn e1 e2 => ⟨fun q => absurd q (by decide), fun _ => ?_⟩)
  subst e1 e2
  have mm : ∀ (K : Int32 → ll_S → Prop), (¬ (∃ b, b < 5 ∧ a2 = nI b) → K 0 g) → (∀ b, b < 5 → a2 = nI b → (¬ g 10 (L * 8 + n) = g 10 (b * 8 + n) → K 0 g) ∧ (g 10 (L * 8 + n) = g 10 (b * 8 + n) → K 1 g)) → G_Lm_agree g (nI L) a2 (nI n) K := by
    intro K k0 k1
    unfold G_Lm_agree
    refine m_place (fun q => absurd ⟨L, n, hL, hn, rfl, rfl⟩ q) (fun _ _ _ _ _ _ => ⟨fun q => absurd q (by decide), fun _ => m_in0 (n := 4) rfl (by omega) (fun c => ⟨fun _ => k0 ?_, fun q => absurd rfl q⟩) (fun b hb eb => ⟨fun q => absurd q (by decide), fun _ => ?_⟩)⟩)
    · rintro ⟨b, hb, e⟩; exact ll_out (by omega) c b hb e
    · have k2 := k1 b hb eb
      subst eb
      simp only [ll_8c]
      rw [nI_clamp (by omega), nI_clamp (by omega)]
      exact ⟨vp_in_nI (by omega) (by omega), vp_in_nI (by omega) (by omega), k2⟩
  refine x_inRange (fun c => ⟨fun _ => mm _ (fun _ => ⟨rfl, h⟩) (fun b q1 q2 => absurd ⟨b, n, q1, hn, q2, rfl⟩ c), fun q => absurd rfl q⟩) (fun b n' hb hn' e1 e2 => ⟨fun q => absurd q (by decide), fun _ => ?_⟩)
  clear e2
  subst e1
  have hp := h.1.2.2.2.1 L b n hL hb hn
  have go : ∀ (r : Int32), ((bt (f 7 (L * 8 + n)) b = false ∧ r = 0) ∨ (bt (f 7 (L * 8 + n)) b = true ∧ r = 1)) → G_Lm_agree g (nI L) (nI b) (nI n) (fun r' g' => r = r' ∧ ll_Sim f g') := by
    intro r hr
    refine mm _ (fun q => absurd ⟨b, hb, rfl⟩ q) (fun b' hb' e => ?_)
    rw [nI_eq (by omega) (by omega)] at e
    subst e
    rcases hr with ⟨q, rfl⟩ | ⟨q, rfl⟩
    · exact ⟨fun _ => ⟨rfl, h⟩, fun z => absurd (hp.mpr z) (by rw [q]; decide)⟩
    · exact ⟨fun z => absurd (hp.mp q) z, fun _ => ⟨rfl, h⟩⟩
  unfold G_Lb_arePeers
  rw [x_cell, nI_clamp (by omega)]
  refine ⟨vp_in_nI (by omega) (by omega), ?_⟩
  rw [x_holds (by omega)]
  refine ⟨fun c => ⟨Or.inl rfl, fun _ => go 0 (Or.inl ⟨c, rfl⟩), fun q => absurd rfl q⟩, fun c => ⟨Or.inr rfl, fun q => absurd q (by decide), fun _ => go 1 (Or.inr ⟨by simpa using c, rfl⟩)⟩⟩
