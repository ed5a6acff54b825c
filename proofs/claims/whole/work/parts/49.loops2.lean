/-! count -/
def sS (t : Nat → Nat) : Nat → Nat
  | 0 => 0
  | m + 1 => t (39 - m) + sS t m
theorem sS_congr {t t' : Nat → Nat} (h : ∀ c, c < 40 → t c = t' c) : ∀ m, m ≤ 40 → sS t m = sS t' m
  | 0, _ => rfl
  | m + 1, hm => by unfold sS; rw [h (39 - m) (by omega), sS_congr h m (by omega)]
def cR (f : ll_S) (i : Nat) : Nat := if f 5 i = 0 then 0 else 1
def cF (f : ll_S) (i : Nat) : Nat := if f 1 i = -1 then 0 else 1
def SP (f : ll_S) (c : Nat) : Nat → Nat
  | 0 => 0
  | m + 1 => (if bt (f 7 c) (4 - m) = true then 1 else 0) + SP f c m
theorem x_cntR {f : ll_S} {K : Int32 → ll_S → Prop} : ∀ (m k a : Nat), m ≤ 40 → m + 1 ≤ k → K (nI (a + sS (cR f) m)) f → G_Lb_countRecords_L K k 0 (nI a) (nI (40 - m)) f := by
  intro m
  induction m with
  | zero =>
    intro k a hm hk h
    obtain ⟨k, rfl⟩ : ∃ k', k = k' + 1 := ⟨k - 1, by omega⟩
    rw [G_Lb_countRecords_L]
    exact ⟨fun _ => h, fun q => absurd (by decide) q⟩
  | succ m ih =>
    intro k a hm hk h
    obtain ⟨k, rfl⟩ : ∃ k', k = k' + 1 := ⟨k - 1, by omega⟩
    rw [G_Lb_countRecords_L]
    refine ⟨fun q => absurd q (nI_ge (a := 40 - (m + 1)) (b := 40) (by omega) (by omega)), fun _ => ?_⟩
    rw [nI_clamp (by omega), nI_1, show 40 - (m + 1) + 1 = 40 - m by omega, show 40 - (m + 1) = 39 - m by omega]
    unfold sS cR at h
    refine ⟨vp_in_nI (by omega) (by omega), fun h0 => ?_, fun h0 => ?_⟩
    · rw [if_pos h0] at h
      rw [show nI a + 0 = nI (a + 0) from nI_add a 0]
      exact ih k (a + 0) (by omega) (by omega) (by rw [show a + 0 + sS (cR f) m = a + (0 + sS (cR f) m) by omega]; exact h)
    · rw [if_neg h0] at h
      rw [nI_1]
      exact ih k (a + 1) (by omega) (by omega) (by rw [show a + 1 + sS (cR f) m = a + (1 + sS (cR f) m) by omega]; exact h)
theorem x_cntF {f : ll_S} {K : Int32 → ll_S → Prop} : ∀ (m k a : Nat), m ≤ 40 → m + 1 ≤ k → K (nI (a + sS (cF f) m)) f → G_Lb_countFiles_L K k 0 (nI a) (nI (40 - m)) f := by
  intro m
  induction m with
  | zero =>
    intro k a hm hk h
    obtain ⟨k, rfl⟩ : ∃ k', k = k' + 1 := ⟨k - 1, by omega⟩
    rw [G_Lb_countFiles_L]
    exact ⟨fun _ => h, fun q => absurd (by decide) q⟩
  | succ m ih =>
    intro k a hm hk h
    obtain ⟨k, rfl⟩ : ∃ k', k = k' + 1 := ⟨k - 1, by omega⟩
    rw [G_Lb_countFiles_L]
    refine ⟨fun q => absurd q (nI_ge (a := 40 - (m + 1)) (b := 40) (by omega) (by omega)), fun _ => ?_⟩
    rw [nI_clamp (by omega), nI_1, show 40 - (m + 1) + 1 = 40 - m by omega, show 40 - (m + 1) = 39 - m by omega]
    unfold sS cF at h
    refine ⟨vp_in_nI (by omega) (by omega), fun h0 => ?_, fun h0 => ?_⟩
    · rw [if_pos h0] at h
      rw [show nI a + 0 = nI (a + 0) from nI_add a 0]
      exact ih k (a + 0) (by omega) (by omega) (by rw [show a + 0 + sS (cF f) m = a + (0 + sS (cF f) m) by omega]; exact h)
    · rw [if_neg h0] at h
      rw [nI_1]
      exact ih k (a + 1) (by omega) (by omega) (by rw [show a + 1 + sS (cF f) m = a + (1 + sS (cF f) m) by omega]; exact h)
theorem x_inner {f : ll_S} {K : Int32 → ll_S → Prop} {c : Nat} (hc : c < 40) : ∀ (m a : Nat), m ≤ 4 → (∃ k, G_Lb_countPeers_L K k 0 (nI (a + SP f c m)) (nI (c + 1)) 0 f) → ∃ k, G_Lb_countPeers_L K k 1 (nI a) (nI c) (nI (5 - m)) f := by
  intro m
  induction m with
  | zero =>
    rintro a hm ⟨k, hk⟩
    refine ⟨k + 1, ?_⟩
    rw [G_Lb_countPeers_L, nI_1]
    exact ⟨fun _ => hk, fun q => absurd (by decide) q⟩
  | succ m ih =>
    intro a hm h
    unfold SP at h
    by_cases hb : bt (f 7 c) (4 - m) = true
    · rw [if_pos hb, show a + (1 + SP f c m) = (a + 1) + SP f c m by omega] at h
      obtain ⟨k, hk⟩ := ih (a + 1) (by omega) h
      refine ⟨k + 1, ?_⟩
      rw [G_Lb_countPeers_L, nI_clamp (by omega), show 5 - (m + 1) = 4 - m by omega, x_holds (by omega), nI_1 a, nI_1 c, nI_1, show 4 - m + 1 = 5 - m by omega]
      exact ⟨fun q => absurd q (nI_ge (a := 4 - m) (b := 5) (by omega) (by omega)), fun _ => ⟨vp_in_nI hc (by omega), fun q => absurd (hb.symm.trans q) (by decide), fun _ => ⟨fun q => absurd q (by decide), fun _ => hk⟩⟩⟩
    · rw [if_neg hb, show a + (0 + SP f c m) = (a + 0) + SP f c m by omega] at h
      obtain ⟨k, hk⟩ := ih (a + 0) (by omega) h
      refine ⟨k + 1, ?_⟩
      rw [G_Lb_countPeers_L, nI_clamp (by omega), show 5 - (m + 1) = 4 - m by omega, x_holds (by omega), nI_1, nI_1, show 4 - m + 1 = 5 - m by omega, show nI a + 0 = nI (a + 0) from nI_add a 0]
      exact ⟨fun q => absurd q (nI_ge (a := 4 - m) (b := 5) (by omega) (by omega)), fun _ => ⟨vp_in_nI hc (by omega), fun _ => ⟨fun _ => hk, fun q => absurd rfl q⟩, fun q => absurd (by simpa using hb) q⟩⟩
theorem x_outer {f : ll_S} {K : Int32 → ll_S → Prop} : ∀ (m a : Nat), m ≤ 40 → K (nI (a + sS (fun c => SP f c (4 - c / 8)) m)) f → ∃ k, G_Lb_countPeers_L K k 0 (nI a) (nI (40 - m)) 0 f := by
  intro m
  induction m with
  | zero =>
    intro a hm h
    refine ⟨1, ?_⟩
    rw [G_Lb_countPeers_L]
    exact ⟨fun _ => h, fun q => absurd (by decide) q⟩
  | succ m ih =>
    intro a hm h
    unfold sS at h
    rw [← Nat.add_assoc] at h
    have h2 := ih _ (by omega) h
    rw [show 40 - m = 39 - m + 1 by omega] at h2
    obtain ⟨k, hk⟩ := x_inner (c := 39 - m) (by omega) (4 - (39 - m) / 8) a (by omega) h2
    refine ⟨k + 1, ?_⟩
    rw [G_Lb_countPeers_L, show 40 - (m + 1) = 39 - m by omega, show (8 : Int32) = nI 8 from rfl, pk_div (by omega) (by omega) (by omega), nI_1]
    rw [show 5 - (4 - (39 - m) / 8) = (39 - m) / 8 + 1 by omega] at hk
    exact ⟨fun q => absurd q (nI_ge (a := 39 - m) (b := 40) (by omega) (by omega)), fun _ => hk⟩
/-! the reference's count -/
theorem m_out {g : ll_S} {w : Int32} {t : Nat → Nat} {K : Int32 → ll_S → Prop} (hs : ∀ c a, c < 40 → (∃ k, G_Lm_count_L K k 0 w (nI (a + t c)) (nI (c + 1)) 0 g) → ∃ k, G_Lm_count_L K k 0 w (nI a) (nI c) 0 g) : ∀ (m a : Nat), m ≤ 40 → (∃ k, G_Lm_count_L K k 0 w (nI (a + sS t m)) (nI 40) 0 g) → ∃ k, G_Lm_count_L K k 0 w (nI a) (nI (40 - m)) 0 g := by
  intro m
  induction m with
  | zero => intro a hm h; exact h
  | succ m ih =>
    intro a hm h
    unfold sS at h
    rw [← Nat.add_assoc] at h
    have h2 := ih _ (by omega) h
    rw [show 40 - m = 39 - m + 1 by omega] at h2
    rw [show 40 - (m + 1) = 39 - m by omega]
    exact hs (39 - m) a (by omega) h2
theorem m_skip {g : ll_S} {w n x4 : Int32} {c : Nat} {K : Int32 → ll_S → Prop} (hw : ¬ w = 3) (h : ∃ k, G_Lm_count_L K k 0 w n (nI (c + 1)) 0 g) : ∃ k, G_Lm_count_L K k 1 w n (nI c) x4 g := by
  obtain ⟨k, hk⟩ := h
  refine ⟨k + 1, ?_⟩
  rw [G_Lm_count_L, nI_1]
  exact ⟨fun _ => hk, fun _ => ⟨fun _ => hk, fun q => absurd q hw⟩⟩
theorem m_last {g : ll_S} {w : Int32} {a : Nat} {K : Int32 → ll_S → Prop} (h0 : w = 0 → K (g 22 0) g) (h1 : (w = 1 ∨ w = 2 ∨ w = 3) → K (nI a) g) (h2 : ¬ w = 0 → ¬ w = 1 → ¬ w = 2 → ¬ w = 3 → K (-1) g) : ∃ k, G_Lm_count_L K k 0 w (nI a) (nI 40) 0 g := by
  refine ⟨1, ?_⟩
  rw [G_Lm_count_L]
  refine ⟨fun _ => ⟨fun hz => m_in (fun c => ⟨fun _ => h2 hz ?_ ?_ ?_, fun q => absurd rfl q⟩) (fun c1 c2 => ⟨fun q => absurd q (by decide), fun _ => h1 ?_⟩), h0⟩, fun q => absurd (by decide) q⟩
  · rintro rfl; exact c (by decide)
  · rintro rfl; exact c (by decide)
  · rintro rfl; exact c (by decide)
  · rw [tI_1] at c1
    rw [tI_3] at c2
    rcases (show w.toInt = 1 ∨ w.toInt = 2 ∨ w.toInt = 3 by omega) with q | q | q
    · exact Or.inl (Int32.toInt_inj.mp (by rw [q, tI_1]))
    · exact Or.inr (Or.inl (Int32.toInt_inj.mp (by rw [q, tI_2])))
    · exact Or.inr (Or.inr (Int32.toInt_inj.mp (by rw [q, tI_3])))
theorem m_cnt1 {g : ll_S} {K : Int32 → ll_S → Prop} (h : K (nI (0 + sS (fun c => if 0 < g 8 c then 1 else 0) 40)) g) : G_Lm_count g 1 K := by
  unfold G_Lm_count
  rw [← nI_0]
  refine m_out (t := fun c => if 0 < g 8 c then 1 else 0) (fun c a hc h => ?_) 40 0 (by omega) (m_last (fun q => absurd q (by decide)) (fun _ => h) (fun _ q => absurd rfl q))
  obtain ⟨k, hk⟩ := m_skip (w := 1) (x4 := nI c + 8) (by decide) h
  refine ⟨k + 1, ?_⟩
  rw [G_Lm_count_L, nI_clamp (by omega)]
  refine ⟨fun q => absurd q (nI_ge (a := c) (b := 40) (by omega) (by omega)), fun _ => ⟨fun q => absurd rfl q, fun _ => ⟨vp_in_nI hc (by omega), fun q => ?_, fun q => ⟨fun _ => ?_, fun z => absurd z (by decide)⟩⟩⟩⟩
  · rw [nI_1]; rw [if_pos q] at hk; exact hk
  · rw [if_neg q] at hk; exact hk
theorem m_cnt2 {g : ll_S} {K : Int32 → ll_S → Prop} (h : K (nI (0 + sS (fun c => if g 1 c = 0 then 0 else 1) 40)) g) : G_Lm_count g 2 K := by
  unfold G_Lm_count
  rw [← nI_0]
  refine m_out (t := fun c => if g 1 c = 0 then 0 else 1) (fun c a hc h => ?_) 40 0 (by omega) (m_last (fun q => absurd q (by decide)) (fun _ => h) (fun _ _ q => absurd rfl q))
  obtain ⟨k, hk⟩ := m_skip (w := 2) (x4 := nI c + 8) (by decide) h
  refine ⟨k + 1, ?_⟩
  rw [G_Lm_count_L, nI_clamp (by omega)]
  refine ⟨fun q => absurd q (nI_ge (a := c) (b := 40) (by omega) (by omega)), fun _ => ⟨fun _ => ⟨fun q => absurd rfl q, fun _ => ⟨vp_in_nI hc (by omega), fun q => ?_, fun q => ?_⟩⟩, fun q => absurd q (by decide)⟩⟩
  · rw [if_pos q] at hk; exact hk
  · rw [nI_1]; rw [if_neg q] at hk; exact hk
theorem m_cntO {g : ll_S} {w : Int32} {K : Int32 → ll_S → Prop} (n1 : ¬ w = 1) (n2 : ¬ w = 2) (n3 : ¬ w = 3) (h0 : w = 0 → K (g 22 0) g) (h1 : ¬ w = 0 → K (-1) g) : G_Lm_count g w K := by
  unfold G_Lm_count
  rw [← nI_0]
  refine m_out (t := fun c => 0) (fun c a hc h => ?_) 40 0 (by omega) (m_last h0 (fun q => ?_) (fun q _ _ _ => h1 q))
  · obtain ⟨k, hk⟩ := m_skip (w := w) (x4 := nI c + 8) n3 h
    refine ⟨k + 1, ?_⟩
    rw [G_Lm_count_L]
    exact ⟨fun q => absurd q (nI_ge (a := c) (b := 40) (by omega) (by omega)), fun _ => ⟨fun _ => ⟨fun _ => hk, fun q => absurd q n2⟩, fun q => absurd q n1⟩⟩
  · rcases q with q | q | q
    · exact absurd q n1
    · exact absurd q n2
    · exact absurd q n3
def SM (g : ll_S) (c n : Nat) : Nat → Nat
  | 0 => 0
  | m + 1 => (if g 10 ((4 - m) * 8 + n) = g 10 c then 1 else 0) + SM g c n m
theorem m_inner {g : ll_S} {K : Int32 → ll_S → Prop} {c n : Nat} (hc : c < 40) (hn : n < 8) : ∀ (m a : Nat), m ≤ 4 → (∃ k, G_Lm_count_L K k 0 3 (nI (a + SM g c n m)) (nI (c + 1)) 0 g) → ∃ k, G_Lm_count_L K k 1 3 (nI a) (nI c) (nI ((5 - m) * 8 + n)) g := by
  intro m
  induction m with
  | zero =>
    rintro a hm ⟨k, hk⟩
    refine ⟨k + 1, ?_⟩
    rw [G_Lm_count_L, nI_1]
    exact ⟨fun _ => hk, fun q => absurd (nI_le (a := 40) (b := (5 - 0) * 8 + n) (by omega) (by omega)) q⟩
  | succ m ih =>
    intro a hm h
    unfold SM at h
    have e8 : nI ((4 - m) * 8 + n) + 8 = nI ((5 - m) * 8 + n) := by
      rw [show (8 : Int32) = nI 8 from rfl, nI_add]; congr 1; omega
    by_cases hb : g 10 ((4 - m) * 8 + n) = g 10 c
    · rw [if_pos hb, show a + (1 + SM g c n m) = (a + 1) + SM g c n m by omega] at h
      obtain ⟨k, hk⟩ := ih (a + 1) (by omega) h
      refine ⟨k + 1, ?_⟩
      rw [G_Lm_count_L, show 5 - (m + 1) = 4 - m by omega, nI_clamp (by omega), nI_clamp (by omega), e8, nI_1 a]
      exact ⟨fun q => absurd q (nI_ge (a := (4 - m) * 8 + n) (b := 40) (by omega) (by omega)), fun _ => ⟨fun q => absurd rfl q, fun _ => ⟨vp_in_nI (by omega) (by omega), vp_in_nI hc (by omega), fun q => absurd hb q, fun _ => hk⟩⟩⟩
    · rw [if_neg hb, show a + (0 + SM g c n m) = a + SM g c n m by omega] at h
      obtain ⟨k, hk⟩ := ih a (by omega) h
      refine ⟨k + 1, ?_⟩
      rw [G_Lm_count_L, show 5 - (m + 1) = 4 - m by omega, nI_clamp (by omega), nI_clamp (by omega), e8]
      exact ⟨fun q => absurd q (nI_ge (a := (4 - m) * 8 + n) (b := 40) (by omega) (by omega)), fun _ => ⟨fun q => absurd rfl q, fun _ => ⟨vp_in_nI (by omega) (by omega), vp_in_nI hc (by omega), fun _ => hk, fun q => absurd q hb⟩⟩⟩
theorem m_cnt3 {g : ll_S} {K : Int32 → ll_S → Prop} (h : K (nI (0 + sS (fun c => SM g c (c % 8) (4 - c / 8)) 40)) g) : G_Lm_count g 3 K := by
  unfold G_Lm_count
  rw [← nI_0]
  refine m_out (t := fun c => SM g c (c % 8) (4 - c / 8)) (fun c a hc h => ?_) 40 0 (by omega) (m_last (fun q => absurd q (by decide)) (fun _ => h) (fun _ _ _ q => absurd rfl q))
  obtain ⟨k, hk⟩ := m_inner hc (show c % 8 < 8 by omega) (4 - c / 8) a (by omega) h
  refine ⟨k + 1, ?_⟩
  rw [show (5 - (4 - c / 8)) * 8 + c % 8 = c + 8 by omega] at hk
  rw [G_Lm_count_L, show nI c + 8 = nI (c + 8) from nI_add c 8]
  exact ⟨fun q => absurd q (nI_ge (a := c) (b := 40) (by omega) (by omega)), fun _ => ⟨fun _ => ⟨fun _ => hk, fun q => absurd q (by decide)⟩, fun q => absurd q (by decide)⟩⟩
theorem sp_sm {f g : ll_S} (hA : sA f g) {c : Nat} (hc : c < 40) : ∀ m, m ≤ 4 → SP f c m = SM g c (c % 8) m
  | 0, _ => rfl
  | m + 1, hm => by
    unfold SP SM
    rw [sp_sm hA hc m (by omega)]
    have := hA.2.2.2.1 (c / 8) (4 - m) (c % 8) (by omega) (by omega) (by omega)
    rw [show c / 8 * 8 + c % 8 = c by omega] at this
    by_cases e : bt (f 7 c) (4 - m) = true
    · rw [if_pos e, if_pos (this.mp e).symm]
    · rw [if_neg e, if_neg (fun q => e (this.mpr q.symm))]
theorem sm_count {f g : ll_S} (h : ll_Sim f g) (a1 : Int32) : G_La_count f a1 (fun r f' => G_Lm_count g a1 (fun r' g' => r = r' ∧ ll_Sim f' g')) := by
  obtain ⟨hA, ⟨d, hB⟩, s7, s8⟩ := id h
  have hd := hB.1
  unfold G_La_count
  refine ⟨fun e => ?_, fun n0 => ⟨fun e => ?_, fun n1 => ⟨fun e => ?_, fun n2 => ⟨fun e => ?_, fun n3 => ?_⟩⟩⟩⟩
  · subst e
    exact m_cntO (by decide) (by decide) (by decide) (fun _ => ⟨by rw [hB.2.1, hB.2.2.1], h⟩) (fun q => absurd rfl q)
  · subst e
    unfold G_Lb_countRecords
    refine ⟨41, ?_⟩
    rw [← nI_0]
    refine x_cntR 40 41 0 (by omega) (by omega) (m_cnt1 ⟨?_, h⟩)
    rw [sS_congr (fun c hc => ?_) 40 (by omega)]
    obtain ⟨e8, j, hj, e5⟩ := hB.2.2.2.2.1 c hc
    unfold cR
    rw [e8, e5]
    by_cases hz : j = 0
    · rw [if_pos (by rw [hz]; rfl), if_neg (by rw [hz]; decide)]
    · rw [if_neg (nI_ne0 (by omega) (by omega)), if_pos (by rw [show (0 : Int32) = nI 0 from rfl]; exact nI_lt (by omega) (by omega))]
  · subst e
    unfold G_Lb_countFiles
    refine ⟨41, ?_⟩
    rw [← nI_0]
    refine x_cntF 40 41 0 (by omega) (by omega) (m_cnt2 ⟨?_, h⟩)
    rw [sS_congr (fun c hc => ?_) 40 (by omega)]
    unfold cF
    rcases hA.2.1 c hc with q | ⟨v, hv, -, e1, f1, -⟩
    · rw [if_pos q.1, if_pos q.2]
    · rw [if_neg (by rw [e1]; intro z; have := congrArg Int32.toInt z; rw [nI_toInt (by omega), tI_m1] at this; omega), if_neg (by rw [f1]; decide)]
  · subst e
    unfold G_Lb_countPeers
    have := x_outer (f := f) (K := fun r f' => G_Lm_count g 3 (fun r' g' => r = r' ∧ ll_Sim f' g')) 40 0 (by omega) (m_cnt3 ⟨by rw [sS_congr (fun c hc => sp_sm hA hc (4 - c / 8) (by omega)) 40 (by omega)], h⟩)
    rw [nI_0] at this
    exact this
  · exact m_cntO n1 n2 n3 (fun q => absurd q n0) (fun _ => ⟨rfl, h⟩)
