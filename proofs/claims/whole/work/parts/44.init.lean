theorem ll_le {a b : Nat} (ha : a < 2147483648) (hb : b < 2147483648) (h : ¬ nI b ≤ nI a) : a < b := by
  rw [nI_leI (by omega) (by omega)] at h; omega
theorem xb_1 {K : ll_S → Prop} : ∀ (k i : Nat) (f : ll_S), i ≤ 40 → 41 ≤ i + k → (∀ l, l < 5 → f 0 l = -1) → (∀ r, 2 ≤ r → r ≤ 6 → f r = fun _ => 0) → (∀ c, c < i → f 1 c = -1 ∧ f 7 c = 1 <<< (nI (c / 8) &&& 31)) → (∀ f' : ll_S, (∀ l, l < 5 → f' 0 l = -1) → (∀ r, 2 ≤ r → r ≤ 6 → f' r = fun _ => 0) → (∀ c, c < 40 → f' 1 c = -1 ∧ f' 7 c = 1 <<< (nI (c / 8) &&& 31)) → K f') → G_Lb_init_L K k 1 (nI i) f := by
  intro k
  induction k with
  | zero => intro i f h1 h2; omega
  | succ k ih =>
    intro i f hi hk h0 hr hc kk
    rw [G_Lb_init_L]
    refine ⟨fun q => ?_, fun q => ?_⟩
    · rw [show (40 : Int32) = nI 40 from rfl, nI_leI (by omega) (by omega)] at q
      exact kk f h0 hr (fun c h => hc c (by omega))
    · have hlt : i < 40 := ll_le (b := 40) (by omega) (by omega) q
      rw [nI_clamp (by omega)]
      refine ⟨vp_in_nI hlt (by omega), ?_⟩
      rintro f4 rfl
      refine ⟨vp_in_nI hlt (by omega), ?_⟩
      rintro f5 rfl
      rw [nI_1]
      refine ih (i + 1) _ (by omega) (by omega) (fun l hl => h0 l hl) (fun r h2 h6 => ?_) (fun c hc2 => ?_) kk
      · rw [ll_w_ne _ _ _ (by omega), ll_w_ne _ _ _ (by omega)]; exact hr r h2 h6
      · simp (disch := decide) only [ll_w_ne, ll_w_eq]
        by_cases e : c = i
        · rw [if_pos e, if_pos e, e, show (8 : Int32) = nI 8 from rfl, pk_div (by omega) (by omega) (by omega)]; exact ⟨rfl, rfl⟩
        · rw [if_neg e, if_neg e]; exact hc c (by omega)
theorem xb_0 {K : ll_S → Prop} : ∀ (k i : Nat) (f : ll_S), i ≤ 5 → 47 ≤ i + k → (∀ l, l < i → f 0 l = -1) → (∀ r, 1 ≤ r → f r = fun _ => 0) → (∀ f' : ll_S, (∀ l, l < 5 → f' 0 l = -1) → (∀ r, 2 ≤ r → r ≤ 6 → f' r = fun _ => 0) → (∀ c, c < 40 → f' 1 c = -1 ∧ f' 7 c = 1 <<< (nI (c / 8) &&& 31)) → K f') → G_Lb_init_L K k 0 (nI i) f := by
  intro k
  induction k with
  | zero => intro i f h1 h2; omega
  | succ k ih =>
    intro i f hi hk h0 hr kk
    rw [G_Lb_init_L]
    refine ⟨fun q => ?_, fun q => ?_⟩
    · rw [show (5 : Int32) = nI 5 from rfl, nI_leI (by omega) (by omega)] at q
      rw [← nI_0]
      exact xb_1 k 0 f (by omega) (by omega) (fun l hl => h0 l (by omega)) (fun r h2 _ => hr r (by omega)) (fun c hc => by omega) kk
    · have hlt : i < 5 := ll_le (b := 5) (by omega) (by omega) q
      rw [nI_clamp (by omega)]
      refine ⟨vp_in_nI hlt (by omega), ?_⟩
      rintro f2 rfl
      rw [nI_1]
      refine ih (i + 1) _ (by omega) (by omega) (fun l hl => ?_) (fun r h1 => ?_) kk
      · rw [ll_w_eq]
        by_cases e : l = i
        · rw [if_pos e]
        · rw [if_neg e]; exact h0 l (by omega)
      · rw [ll_w_ne _ _ _ (by omega)]; exact hr r h1
theorem xc_0 {K : ll_S → Prop} : ∀ (k i : Nat) (f : ll_S), i ≤ 124 → 125 ≤ i + k → (∀ p, p < i → f 13 p = 8) → (∀ r, r ≠ 13 → f r = fun _ => 0) → (∀ f' : ll_S, (∀ p, p < 124 → f' 13 p = 8) → (∀ r, r ≠ 13 → f' r = fun _ => 0) → K f') → G_Lc_init_L K k 0 (nI i) f := by
  intro k
  induction k with
  | zero => intro i f h1 h2; omega
  | succ k ih =>
    intro i f hi hk h0 hr kk
    rw [G_Lc_init_L]
    refine ⟨fun q => ?_, fun q => ?_⟩
    · rw [show (124 : Int32) = nI 124 from rfl, nI_leI (by omega) (by omega)] at q
      exact kk f (fun p hp => h0 p (by omega)) hr
    · have hlt : i < 124 := ll_le (b := 124) (by omega) (by omega) q
      rw [nI_clamp (by omega)]
      refine ⟨vp_in_nI hlt (by omega), ?_⟩
      rintro f2 rfl
      rw [nI_1]
      refine ih (i + 1) _ (by omega) (by omega) (fun l hl => ?_) (fun r h1 => ?_) kk
      · rw [ll_w_eq]
        by_cases e : l = i
        · rw [if_pos e]
        · rw [if_neg e]; exact h0 l (by omega)
      · rw [ll_w_ne _ _ _ h1]; exact hr r h1
theorem xm_1 {K : ll_S → Prop} : ∀ (k i : Nat) (f : ll_S), i ≤ 40 → 41 ≤ i + k → (∀ l, l < 5 → f 0 l = -1) → (∀ r, r ≠ 0 → r ≠ 10 → f r = fun _ => 0) → (∀ c, c < i → f 10 c = nI (c / 8)) → (∀ f' : ll_S, (∀ l, l < 5 → f' 0 l = -1) → (∀ r, r ≠ 0 → r ≠ 10 → f' r = fun _ => 0) → (∀ c, c < 40 → f' 10 c = nI (c / 8)) → K f') → G_Lm_init_L K k 1 (nI i) f := by
  intro k
  induction k with
  | zero => intro i f h1 h2; omega
  | succ k ih =>
    intro i f hi hk h0 hr hc kk
    rw [G_Lm_init_L]
    refine ⟨fun q => ?_, fun q => ?_⟩
    · rw [show (40 : Int32) = nI 40 from rfl, nI_leI (by omega) (by omega)] at q
      exact kk f h0 hr (fun c h => hc c (by omega))
    · have hlt : i < 40 := ll_le (b := 40) (by omega) (by omega) q
      rw [nI_clamp (by omega)]
      refine ⟨vp_in_nI hlt (by omega), ?_⟩
      rintro f4 rfl
      rw [nI_1]
      refine ih (i + 1) _ (by omega) (by omega) (fun l hl => h0 l hl) (fun r h2 h6 => ?_) (fun c hc2 => ?_) kk
      · rw [ll_w_ne _ _ _ h6]; exact hr r h2 h6
      · rw [ll_w_eq]
        by_cases e : c = i
        · rw [if_pos e, e, show (8 : Int32) = nI 8 from rfl, pk_div (by omega) (by omega) (by omega)]
        · rw [if_neg e]; exact hc c (by omega)
theorem xm_0 {K : ll_S → Prop} : ∀ (k i : Nat) (f : ll_S), i ≤ 5 → 47 ≤ i + k → (∀ l, l < i → f 0 l = -1) → (∀ r, r ≠ 0 → f r = fun _ => 0) → (∀ f' : ll_S, (∀ l, l < 5 → f' 0 l = -1) → (∀ r, r ≠ 0 → r ≠ 10 → f' r = fun _ => 0) → (∀ c, c < 40 → f' 10 c = nI (c / 8)) → K f') → G_Lm_init_L K k 0 (nI i) f := by
  intro k
  induction k with
  | zero => intro i f h1 h2; omega
  | succ k ih =>
    intro i f hi hk h0 hr kk
    rw [G_Lm_init_L]
    refine ⟨fun q => ?_, fun q => ?_⟩
    · rw [show (5 : Int32) = nI 5 from rfl, nI_leI (by omega) (by omega)] at q
      rw [← nI_0]
      exact xm_1 k 0 f (by omega) (by omega) (fun l hl => h0 l (by omega)) (fun r h2 _ => hr r h2) (fun c hc => by omega) kk
    · have hlt : i < 5 := ll_le (b := 5) (by omega) (by omega) q
      rw [nI_clamp (by omega)]
      refine ⟨vp_in_nI hlt (by omega), ?_⟩
      rintro f2 rfl
      rw [nI_1]
      refine ih (i + 1) _ (by omega) (by omega) (fun l hl => ?_) (fun r h1 => ?_) kk
      · rw [ll_w_eq]
        by_cases e : l = i
        · rw [if_pos e]
        · rw [if_neg e]; exact h0 l (by omega)
      · rw [ll_w_ne _ _ _ h1]; exact hr r h1
theorem ll_bt1 : ∀ n, n < 32 → ∀ i, i < 32 → bt (1 <<< (nI n &&& 31)) i = decide (n = i) := by decide +kernel
theorem sm_init : G_Lb_init (fun _ _ => 0) (fun f1 => G_Lc_init (fun _ _ => 0) (fun f2 => (fun f => G_Lm_init (fun _ _ => 0) (fun g => ll_Sim f g)) (ll_mix f1 f2))) := by
  unfold G_Lb_init
  refine ⟨47, ?_⟩
  rw [← nI_0]
  refine xb_0 47 0 _ (by omega) (by omega) (fun l hl => by omega) (fun r hr => rfl) (fun f1 p1 p2 p3 => ?_)
  unfold G_Lc_init
  refine ⟨125, ?_⟩
  rw [← nI_0]
  refine xc_0 125 0 _ (by omega) (by omega) (fun l hl => by omega) (fun r hr => rfl) (fun f2 q1 q2 => ?_)
  show G_Lm_init (fun _ _ => nI 0) (fun g => ll_Sim (ll_mix f1 f2) g)
  unfold G_Lm_init
  refine ⟨47, ?_⟩
  rw [← nI_0]
  refine xm_0 47 0 _ (by omega) (by omega) (fun l hl => by omega) (fun r hr => rfl) (fun g r1 r2 r3 => ?_)
  have z : ∀ r, r ≠ 0 → r ≠ 10 → ∀ i, g r i = 0 := fun r h1 h2 i => by rw [r2 r h1 h2]
  have y : ∀ r, 2 ≤ r → r ≤ 6 → ∀ i, f1 r i = 0 := fun r h1 h2 i => by rw [p2 r h1 h2]
  have x : ∀ r, r ≠ 13 → ∀ i, f2 r i = 0 := fun r h1 i => by rw [q2 r h1]
  refine ⟨⟨fun l hl => ?_, fun c hc => ?_, fun c hc => ?_, fun a b n ha hb hn => ?_, fun p hp => ?_⟩, ⟨0, by omega, ?_, ?_, fun i h1 h2 => by omega, fun c hc => ?_, fun c hc => ?_, ?_, ?_, ?_⟩, ?_, ?_⟩
  · exact ⟨(r1 l hl).trans (p1 l hl).symm, Or.inl (p1 l hl)⟩
  · exact Or.inl ⟨(p3 c hc).1, z 1 (by decide) (by decide) c⟩
  · exact ⟨(z 6 (by decide) (by decide) c).trans (y 3 (by decide) (by decide) c).symm, (z 7 (by decide) (by decide) c).trans (y 4 (by decide) (by decide) c).symm, 0, by omega, y 3 (by decide) (by decide) c, by omega, by omega⟩
  · show bt (f1 7 (a * 8 + n)) b = true ↔ _
    rw [(p3 (a * 8 + n) (by omega)).2, r3 (a * 8 + n) (by omega), r3 (b * 8 + n) (by omega), show (a * 8 + n) / 8 = a by omega, show (b * 8 + n) / 8 = b by omega, ll_bt1 a (by omega) b (by omega), nI_eq (by omega) (by omega), decide_eq_true_eq]
  · refine ⟨(z 17 (by decide) (by decide) p).trans (x 14 (by decide) (p + 4)).symm, fun hq => ?_, 8, by omega, q1 (p + 4) (by omega), ?_⟩
    · exact (z 18 (by decide) (by decide) p).trans (x 15 (by decide) (p + 4)).symm
    · rw [if_pos rfl]; exact z 16 (by decide) (by decide) p
  · exact x 16 (by decide) 0
  · exact z 22 (by decide) (by decide) 0
  · exact ⟨(z 8 (by decide) (by decide) c).trans (y 5 (by decide) (by decide) c).symm, 0, by omega, y 5 (by decide) (by decide) c⟩
  · exact ⟨(z 9 (by decide) (by decide) c).trans (y 6 (by decide) (by decide) c).symm, Or.inl (y 6 (by decide) (by decide) c)⟩
  · show ll_cnt (f1 6) 40 = 0
    rw [p2 6 (by decide) (by decide)]; decide
  · exact z 23 (by decide) (by decide) 0
  · exact z 26 (by decide) (by decide) 0
  · exact (z 27 (by decide) (by decide) 0).symm
  · exact (z 28 (by decide) (by decide) 0).symm
/-! isA -/
def isI (f : ll_S) : Nat → Int32 → Int32
  | 0, s => s
  | i + 1, s => isI f i (if bt s (i + 1) = true then s ||| ((1 <<< (f 10 (i + 1) &&& 31)) ||| (1 <<< (f 11 (i + 1) &&& 31))) else s)
theorem isI_low {f g : ll_S} {d o : Nat} (hB : sB f g 0 d) (ho : o ≤ 30) : ∀ (i : Nat) (s : Int32), i ≤ o → i ≤ d → bt (isI f i s) o = bt s o
  | 0, s, _, _ => rfl
  | i + 1, s, h1, h2 => by
    unfold isI
    rw [isI_low hB ho i _ (by omega) (by omega)]
    split
    · obtain ⟨-, -, -, -, -, -, -, ⟨j1, hj1, e1⟩, ⟨j2, hj2, e2⟩⟩ := hB.2.2.2.1 (i + 1) (by omega) h2
      rw [b_or, b_or, e1, e2, ll_bt1 j1 (by omega) o (by omega), ll_bt1 j2 (by omega) o (by omega), decide_eq_false (by omega), decide_eq_false (by omega)]
      simp
    · rfl
theorem x_leads {f g : ll_S} {d o : Nat} {a : Int32} {K : Int32 → ll_S → Prop} (hB : sB f g 0 d) (ho : o ≤ 30) : ∀ (i k : Nat) (s : Int32), i ≤ d → i + 1 ≤ k → (bt (isI f i s) o = true → K 1 f) → (bt (isI f i s) o = false → K 0 f) → G_Lc_leadsTo_L K k 0 a (nI o) s (nI i) f := by
  intro i
  have hd := hB.1
  induction i with
  | zero =>
    intro k s hi hk h1 h0
    obtain ⟨k, rfl⟩ : ∃ k', k = k' + 1 := ⟨k - 1, by omega⟩
    rw [G_Lc_leadsTo_L]
    refine ⟨fun _ => ?_, fun q => absurd (nI_le (by omega) (by omega)) q⟩
    rw [ll_bit (by omega)]
    exact ⟨fun q => h0 q, fun q => h1 (show bt s o = true by simpa using q)⟩
  | succ i ih =>
    intro k s hi hk h1 h0
    obtain ⟨k, rfl⟩ : ∃ k', k = k' + 1 := ⟨k - 1, by omega⟩
    rw [G_Lc_leadsTo_L]
    refine ⟨fun q => ?_, fun q => ?_⟩
    · rw [nI_leI (by omega) (by omega)] at q
      have e := isI_low hB ho (i + 1) s q hi
      rw [e] at h1 h0
      rw [ll_bit (by omega)]
      exact ⟨fun q => h0 q, fun q => h1 (by simpa using q)⟩
    · rw [ll_bit (by omega), pk_m1, nI_clamp (by omega)]
      have hv : vp_in (nI (i + 1)) 31 := vp_in_nI (by omega) (by omega)
      refine ⟨fun hb => ih k s (by omega) (by omega) (fun q => h1 ?_) (fun q => h0 ?_), fun hb => ⟨hv, hv, ih k _ (by omega) (by omega) (fun q => h1 ?_) (fun q => h0 ?_)⟩⟩
      · unfold isI; rw [if_neg (by rw [hb]; decide)]; exact q
      · unfold isI; rw [if_neg (by rw [hb]; decide)]; exact q
      · unfold isI; rw [if_pos (by simpa using hb)]; exact q
      · unfold isI; rw [if_pos (by simpa using hb)]; exact q
theorem m_isA_L {f g : ll_S} {d o : Nat} {a : Int32} {K : Int32 → ll_S → Prop} (hB : sB f g 0 d) (ho : o ≤ 30) : ∀ (i k : Nat) (s : Int32), i ≤ d → i + 1 ≤ k → (bt (isI f i s) o = true → K 1 g) → (bt (isI f i s) o = false → K 0 g) → G_Lm_isA_L K k 0 a (nI o) s (nI i) g := by
  intro i
  have hd := hB.1
  induction i with
  | zero =>
    intro k s hi hk h1 h0
    obtain ⟨k, rfl⟩ : ∃ k', k = k' + 1 := ⟨k - 1, by omega⟩
    rw [G_Lm_isA_L]
    refine ⟨fun _ => ?_, fun q => absurd (by decide) q⟩
    rw [ll_bit (by omega)]
    exact ⟨fun q => h0 q, fun q => h1 (show bt s o = true by simpa using q)⟩
  | succ i ih =>
    intro k s hi hk h1 h0
    obtain ⟨k, rfl⟩ : ∃ k', k = k' + 1 := ⟨k - 1, by omega⟩
    rw [G_Lm_isA_L]
    refine ⟨fun q => absurd q (nI_nle (by omega) (by omega)), fun q => ?_⟩
    obtain ⟨-, -, e1, e2, -⟩ := hB.2.2.2.1 (i + 1) (by omega) hi
    rw [ll_bit (by omega), pk_m1, nI_clamp (by omega), e1, e2]
    have hv : vp_in (nI (i + 1)) 31 := vp_in_nI (by omega) (by omega)
    refine ⟨fun hb => ih k s (by omega) (by omega) (fun q => h1 ?_) (fun q => h0 ?_), fun hb => ⟨hv, hv, ih k _ (by omega) (by omega) (fun q => h1 ?_) (fun q => h0 ?_)⟩⟩
    · unfold isI; rw [if_neg (by rw [hb]; decide)]; exact q
    · unfold isI; rw [if_neg (by rw [hb]; decide)]; exact q
    · unfold isI; rw [if_pos (by simpa using hb)]; exact q
    · unfold isI; rw [if_pos (by simpa using hb)]; exact q
theorem m_in1e {g : ll_S} {a m : Int32} {d : Nat} {K : Int32 → ll_S → Prop} (hd : d ≤ 30) (em : m = nI d) (h0 : (¬ ∃ j, 1 ≤ j ∧ j ≤ d ∧ a = nI j) → K 0 g) (h1 : ∀ j, 1 ≤ j → j ≤ d → a = nI j → K 1 g) : G_Lm_in g a 1 m K := by
  rw [em]; exact m_in1 hd h0 h1
theorem sm_isA {f g : ll_S} (h : ll_Sim f g) (a1 a2 : Int32) : G_La_isA f a1 a2 (fun r f' => G_Lm_isA g a1 a2 (fun r' g' => r = r' ∧ ll_Sim f' g')) := by
  obtain ⟨hA, ⟨d, hB⟩, s7, s8⟩ := id h
  have b1 := hB.1
  have b2 := hB.2.1
  have b3 := hB.2.2.1
  have bad : (¬ ∃ j o, 1 ≤ j ∧ j ≤ d ∧ 1 ≤ o ∧ o ≤ d ∧ a1 = nI j ∧ a2 = nI o) → G_Lm_isA g a1 a2 (fun r' g' => (0 : Int32) = r' ∧ ll_Sim f g') := by
    intro c
    unfold G_Lm_isA
    exact m_in1e b1 b3 (fun _ => ⟨fun _ => ⟨rfl, h⟩, fun q => absurd rfl q⟩) (fun j q1 q2 q3 => ⟨fun q => absurd q (by decide), fun _ => m_in1e b1 b3 (fun _ => ⟨fun q => absurd rfl q, fun _ => ⟨rfl, h⟩⟩) (fun o p1 p2 p3 => absurd ⟨j, o, q1, q2, p1, p2, q3, p3⟩ c)⟩)
  unfold G_La_isA
  refine x_has b1 b2 (fun c => ⟨fun _ => bad ?_, fun q => absurd rfl q⟩) (fun j hj hjd ej => ⟨fun q => absurd q (by decide), fun _ => x_has b1 b2 (fun c => ⟨fun _ => bad ?_, fun q => absurd rfl q⟩) (fun o ho hod eo => ⟨fun q => absurd q (by decide), fun _ => ?_⟩)⟩)
  · rintro ⟨j, o, q1, q2, -, -, q3, -⟩; exact c ⟨j, q1, q2, q3⟩
  · rintro ⟨j, o, -, -, q1, q2, -, q3⟩; exact c ⟨o, q1, q2, q3⟩
  subst ej eo
  have mm : ∀ (r : Int32), (bt (isI f j (1 <<< (nI j &&& 31))) o = true → r = 1) → (bt (isI f j (1 <<< (nI j &&& 31))) o = false → r = 0) → G_Lm_isA g (nI j) (nI o) (fun r' g' => r = r' ∧ ll_Sim f g') := by
    intro r h1 h0
    unfold G_Lm_isA
    refine m_in1e b1 b3 (fun q => absurd ⟨j, hj, hjd, rfl⟩ q) (fun _ _ _ _ => ⟨fun q => absurd q (by decide), fun _ => m_in1e b1 b3 (fun q => absurd ⟨o, ho, hod, rfl⟩ q) (fun _ _ _ _ => ⟨fun _ => ⟨j + 1, ?_⟩, fun q => absurd q (by decide)⟩)⟩)
    exact m_isA_L hB (by omega) j (j + 1) _ hjd (by omega) (fun q => ⟨h1 q, h⟩) (fun q => ⟨h0 q, h⟩)
  unfold G_Lc_leadsTo
  refine ⟨j + 1, ?_⟩
  refine x_leads hB (by omega) j (j + 1) _ hjd (by omega) (fun q => ⟨fun z => absurd z (by decide), fun _ => mm 1 (fun _ => rfl) (fun z => absurd (q.symm.trans z) (by decide))⟩) (fun q => ⟨fun _ => mm 0 (fun z => absurd (q.symm.trans z) (by decide)) (fun _ => rfl), fun z => absurd rfl z⟩)
