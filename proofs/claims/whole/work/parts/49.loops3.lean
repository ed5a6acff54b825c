/-! constrain -/
/-- the last record of a set of loaders, or none -/
def lastR (f : ll_S) (s : Int32) (n l : Nat) (v : Int32) : Prop := (v = 0 ∧ ∀ m, m < l → bt s m = true → f 5 (m * 8 + n) = 0) ∨ (¬ v = 0 ∧ ∃ m, m < l ∧ bt s m = true ∧ f 5 (m * 8 + n) = v)
theorem x_any_L {f : ll_S} {s : Int32} {n : Nat} {K : Int32 → ll_S → Prop} (hn : n < 8) (hK : ∀ v, lastR f s n 5 v → K v f) : ∀ (k l : Nat) (v : Int32), l ≤ 5 → 6 ≤ l + k → lastR f s n l v → G_Lb_anyRecord_L K k 0 s (nI n) v (nI l) f := by
  intro k
  induction k with
  | zero => intro l v h1 h2; omega
  | succ k ih =>
    intro l v hl hk hv
    rw [G_Lb_anyRecord_L]
    by_cases e : l = 5
    · subst e
      exact ⟨fun _ => hK v hv, fun q => absurd (by decide) q⟩
    · refine ⟨fun q => absurd q (nI_ge (a := l) (b := 5) (by omega) (by omega)), fun _ => ?_⟩
      rw [x_holds (by omega), x_recordOf (by omega) hn, nI_1]
      have same : (bt s l = true → f 5 (l * 8 + n) = 0) → lastR f s n (l + 1) v := by
        intro h0
        rcases hv with ⟨e1, h⟩ | ⟨e1, m, h1, h2, h3⟩
        · refine Or.inl ⟨e1, fun m hm hb => ?_⟩
          by_cases em : m = l
          · subst em; exact h0 hb
          · exact h m (by omega) hb
        · exact Or.inr ⟨e1, m, by omega, h2, h3⟩
      refine ⟨fun hb => ⟨fun _ => ih (l + 1) v (by omega) (by omega) (same (fun q => absurd (hb.symm.trans q) (by decide))), fun q => absurd rfl q⟩, fun hb => ⟨fun q => absurd q (by decide), fun _ => ⟨fun hz => ih (l + 1) v (by omega) (by omega) (same (fun _ => hz)), fun hz => ?_⟩⟩⟩
      rw [x_recordOf (by omega) hn]
      exact ih (l + 1) _ (by omega) (by omega) (Or.inr ⟨hz, l, by omega, by simpa using hb, rfl⟩)
/-- two different records in a set -/
def CF (f : ll_S) (s : Int32) (n : Nat) : Prop := ∃ m m', m < 5 ∧ m' < 5 ∧ bt s m = true ∧ bt s m' = true ∧ ¬ f 5 (m * 8 + n) = 0 ∧ ¬ f 5 (m' * 8 + n) = 0 ∧ ¬ f 5 (m * 8 + n) = f 5 (m' * 8 + n)
theorem cf_iff {f : ll_S} {s v : Int32} {n : Nat} (h : lastR f s n 5 v) : (∃ m, 0 ≤ m ∧ m < 5 ∧ bt s m = true ∧ ¬ f 5 (m * 8 + n) = 0 ∧ ¬ f 5 (m * 8 + n) = v) ↔ CF f s n := by
  constructor
  · rintro ⟨m, -, hm, hb, h0, hv⟩
    rcases h with ⟨-, h⟩ | ⟨e1, m', h1, h2, h3⟩
    · exact absurd (h m hm hb) h0
    · exact ⟨m, m', hm, h1, hb, h2, h0, by rw [h3]; exact e1, by rw [h3]; exact hv⟩
  · rintro ⟨m, m', h1, h2, h3, h4, h5, h6, h7⟩
    by_cases e : f 5 (m * 8 + n) = v
    · exact ⟨m', by omega, h2, h4, h6, fun q => h7 (by rw [e, q])⟩
    · exact ⟨m, by omega, h1, h3, h5, e⟩
/-- behind the class's join -/
def jX (f f' : ll_S) (s : Int32) (n l : Nat) : Prop := (∀ r, r ≠ 7 → f' r = f r) ∧ ∀ a n', a < 5 → n' < 8 → f' 7 (a * 8 + n') = if n' = n ∧ a < l ∧ bt s a = true then s else f 7 (a * 8 + n')
theorem x_join_L {f0 : ll_S} {s a1 a2 : Int32} {n : Nat} {K : Int32 → ll_S → Prop} (hn : n < 8) (hK : ∀ f', jX f0 f' s n 5 → K 1 f') : ∀ (k l : Nat) (f : ll_S), l ≤ 5 → 6 ≤ l + k → jX f0 f s n l → G_Lb_join_L K k 0 a1 a2 (nI n) s (nI l) f := by
  intro k
  induction k with
  | zero => intro l f h1 h2; omega
  | succ k ih =>
    intro l f hl hk hj
    rw [G_Lb_join_L]
    by_cases e : l = 5
    · subst e
      exact ⟨fun _ => hK f hj, fun q => absurd (by decide) q⟩
    · refine ⟨fun q => absurd q (nI_ge (a := l) (b := 5) (by omega) (by omega)), fun _ => ?_⟩
      rw [x_holds (by omega), x_cell, nI_1]
      refine ⟨fun hb => ⟨fun _ => ih (l + 1) f (by omega) (by omega) ⟨hj.1, fun a n' ha hn' => ?_⟩, fun q => absurd rfl q⟩, fun hb => ⟨fun q => absurd q (by decide), fun _ => ?_⟩⟩
      · rw [hj.2 a n' ha hn']
        by_cases ea : a = l
        · subst ea
          rw [if_neg (by omega), if_neg (fun q => absurd (hb.symm.trans q.2.2) (by decide))]
        · by_cases c : n' = n ∧ a < l ∧ bt s a = true
          · rw [if_pos c, if_pos ⟨c.1, by omega, c.2.2⟩]
          · rw [if_neg c, if_neg (fun q => c ⟨q.1, by omega, q.2.2⟩)]
      · rw [nI_clamp (by omega)]
        refine ⟨vp_in_nI (by omega) (by omega), ?_⟩
        rintro f16 rfl
        refine ih (l + 1) _ (by omega) (by omega) ⟨fun r hr => by rw [ll_w_ne _ _ _ hr]; exact hj.1 r hr, fun a n' ha hn' => ?_⟩
        rw [ll_w_eq]
        by_cases ec : a * 8 + n' = l * 8 + n
        · rw [if_pos ec, if_pos ⟨by omega, by omega, by rw [show a = l by omega]; simpa using hb⟩]
        · rw [if_neg ec, hj.2 a n' ha hn']
          by_cases c : n' = n ∧ a < l ∧ bt s a = true
          · rw [if_pos c, if_pos ⟨c.1, by omega, c.2.2⟩]
          · rw [if_neg c, if_neg (fun q => c ⟨q.1, by omega, q.2.2⟩)]
theorem x_join {f : ll_S} {a b n : Nat} {K : Int32 → ll_S → Prop} (ha : a < 5) (hb : b < 5) (hn : n < 8) (h0 : CF f (f 7 (a * 8 + n) ||| f 7 (b * 8 + n)) n → K 0 f) (h1 : ¬ CF f (f 7 (a * 8 + n) ||| f 7 (b * 8 + n)) n → ∀ f', jX f f' (f 7 (a * 8 + n) ||| f 7 (b * 8 + n)) n 5 → K 1 f') : G_Lb_join f (nI a) (nI b) (nI n) K := by
  unfold G_Lb_join
  rw [x_cell, x_cell, nI_clamp (by omega), nI_clamp (by omega)]
  refine ⟨vp_in_nI (by omega) (by omega), vp_in_nI (by omega) (by omega), ?_⟩
  unfold G_Lb_anyRecord
  refine ⟨6, ?_⟩
  have key : ∀ v, lastR f (f 7 (a * 8 + n) ||| f 7 (b * 8 + n)) n 5 v → G_Lb_differ f (f 7 (a * 8 + n) ||| f 7 (b * 8 + n)) (nI n) v (fun r7 f8 => ((r7 = 0 → (∃ k, G_Lb_join_L K k 0 (nI a) (nI b) (nI n) (f 7 (a * 8 + n) ||| f 7 (b * 8 + n)) 0 f8)) ∧ (¬ r7 = 0 → K 0 f8))) := by
    intro v hv
    unfold G_Lb_differ
    refine ⟨6, ?_⟩
    rw [show (0 : Int32) = nI 0 from rfl]
    refine x_differ_L hn 6 0 (by omega) (by omega) (fun q => ⟨fun z => absurd z (by decide), fun _ => h0 ((cf_iff hv).mp q)⟩) (fun q => ⟨fun _ => ⟨6, ?_⟩, fun z => absurd rfl z⟩)
    exact x_join_L hn (h1 (fun z => q ((cf_iff hv).mpr z))) 6 0 f (by omega) (by omega) ⟨fun _ _ => rfl, fun a n' _ _ => by rw [if_neg (by omega)]⟩
  have e0 : (0 : Int32) = nI 0 := rfl
  exact x_any_L hn key 6 0 (nI 0) (by omega) (by omega) (Or.inl ⟨rfl, fun m hm => by omega⟩)
/-! the reference's constrain -/
def inG (g : ll_S) (x y : Int32) (n m : Nat) : Prop := g 10 (m * 8 + n) = x ∨ g 10 (m * 8 + n) = y
def jM (g g' : ll_S) (x y mn : Int32) (n l : Nat) : Prop := (∀ r, r ≠ 10 → g' r = g r) ∧ ∀ a n', a < 5 → n' < 8 → ((n' = n ∧ a < l ∧ inG g x y n a) → g' 10 (a * 8 + n') = mn) ∧ (¬ (n' = n ∧ a < l ∧ inG g x y n a) → g' 10 (a * 8 + n') = g 10 (a * 8 + n'))
theorem m_join_L {g0 : ll_S} {a1 a2 x y x6 : Int32} {n : Nat} {K : Int32 → ll_S → Prop} (hn : n < 8) (hK : ∀ g', jM g0 g' x y (if y ≤ x then y else x) n 5 → K 0 g') : ∀ (k l : Nat) (g : ll_S), l ≤ 5 → 6 ≤ l + k → jM g0 g x y (if y ≤ x then y else x) n l → G_Lm_constrain_L K k 1 a1 a2 (nI n) x y x6 (nI l) g := by
  intro k
  induction k with
  | zero => intro l g h1 h2; omega
  | succ k ih =>
    intro l g hl hk hj
    rw [G_Lm_constrain_L]
    by_cases e : l = 5
    · subst e
      exact ⟨fun _ => hK g hj, fun q => absurd (by decide) q⟩
    · refine ⟨fun q => absurd q (nI_ge (a := l) (b := 5) (by omega) (by omega)), fun _ => ?_⟩
      rw [ll_8c, nI_clamp (by omega), nI_1]
      have hi : vp_in (nI (l * 8 + n)) 40 := vp_in_nI (by omega) (by omega)
      have eg : g 10 (l * 8 + n) = g0 10 (l * 8 + n) := (hj.2 l n (by omega) hn).2 (by omega)
      have skip : ¬ inG g0 x y n l → G_Lm_constrain_L K k 1 a1 a2 (nI n) x y x6 (nI (l + 1)) g := by
        intro hno
        refine ih (l + 1) g (by omega) (by omega) ⟨hj.1, fun a n' ha hn' => ⟨fun q => (hj.2 a n' ha hn').1 ⟨q.1, ?_, q.2.2⟩, fun q => (hj.2 a n' ha hn').2 (fun z => q ⟨z.1, by omega, z.2.2⟩)⟩⟩
        have : a ≠ l := by rintro rfl; exact hno q.2.2
        omega
      have put : inG g0 x y n l → ∀ w, w = (if y ≤ x then y else x) → G_Lm_constrain_L K k 1 a1 a2 (nI n) x y x6 (nI (l + 1)) (ll_w g 10 (l * 8 + n) w) := by
        rintro hin w rfl
        refine ih (l + 1) _ (by omega) (by omega) ⟨fun r hr => by rw [ll_w_ne _ _ _ hr]; exact hj.1 r hr, fun a n' ha hn' => ?_⟩
        rw [ll_w_eq]
        by_cases ec : a * 8 + n' = l * 8 + n
        · rw [if_pos ec]
          exact ⟨fun _ => rfl, fun q => absurd ⟨by omega, by omega, by rw [show a = l by omega]; exact hin⟩ q⟩
        · rw [if_neg ec]
          exact ⟨fun q => (hj.2 a n' ha hn').1 ⟨q.1, by have := q.2.1; have := q.1; omega, q.2.2⟩, fun q => (hj.2 a n' ha hn').2 (fun z => q ⟨z.1, by omega, z.2.2⟩)⟩
      have put2 : inG g0 x y n l → ((y ≤ x → (vp_in (nI (l * 8 + n)) 40 ∧ ∀ f19, f19 = ll_w g 10 (l * 8 + n) y → (G_Lm_constrain_L K k 1 a1 a2 (nI n) x y x6 (nI (l + 1)) f19))) ∧ (¬ y ≤ x → (vp_in (nI (l * 8 + n)) 40 ∧ ∀ f20, f20 = ll_w g 10 (l * 8 + n) x → (G_Lm_constrain_L K k 1 a1 a2 (nI n) x y x6 (nI (l + 1)) f20)))) := by
        intro hin
        refine ⟨fun q => ⟨hi, ?_⟩, fun q => ⟨hi, ?_⟩⟩
        · rintro f19 rfl; exact put hin y (by rw [if_pos q])
        · rintro f20 rfl; exact put hin x (by rw [if_neg q])
      exact ⟨hi, fun q => put2 (Or.inl (eg.symm.trans q)), fun q => ⟨hi, fun z => skip (fun w => w.elim (fun w => q (eg.trans w)) (fun w => z (eg.trans w))), fun z => put2 (Or.inr (eg.symm.trans z))⟩⟩
/-- what the first loop knows -/
def okM (g : ll_S) (x y : Int32) (n l : Nat) (v : Int32) : Prop := (∀ m, m < l → inG g x y n m → ¬ g 8 (m * 8 + n) = 0 → g 8 (m * 8 + n) = v) ∧ ((v = 0 ∧ ∀ m, m < l → inG g x y n m → g 8 (m * 8 + n) = 0) ∨ (0 < v ∧ ∃ m, m < l ∧ inG g x y n m ∧ g 8 (m * 8 + n) = v))
theorem m_one_L {g : ll_S} {a1 a2 x y : Int32} {n : Nat} {K : Int32 → ll_S → Prop} (hn : n < 8) (hpos : ∀ m, m < 5 → ¬ g 8 (m * 8 + n) = 0 → 0 < g 8 (m * 8 + n))
    (h0 : (∃ m m', m < 5 ∧ m' < 5 ∧ inG g x y n m ∧ inG g x y n m' ∧ ¬ g 8 (m * 8 + n) = 0 ∧ ¬ g 8 (m' * 8 + n) = 0 ∧ ¬ g 8 (m * 8 + n) = g 8 (m' * 8 + n)) → K (-9) g) (h1 : (¬ ∃ m m', m < 5 ∧ m' < 5 ∧ inG g x y n m ∧ inG g x y n m' ∧ ¬ g 8 (m * 8 + n) = 0 ∧ ¬ g 8 (m' * 8 + n) = 0 ∧ ¬ g 8 (m * 8 + n) = g 8 (m' * 8 + n)) → ∀ v, ∃ k, ∀ k', k ≤ k' → G_Lm_constrain_L K k' 1 a1 a2 (nI n) x y v 0 g) : ∀ (j l : Nat) (v : Int32), l + j = 5 → okM g x y n l v → ∃ k, G_Lm_constrain_L K k 0 a1 a2 (nI n) x y v (nI l) g := by
  intro j
  induction j with
  | zero =>
    intro l v hl hv
    obtain ⟨k, hk⟩ := h1 (by
      rintro ⟨m, m', q1, q2, q3, q4, q5, q6, q7⟩
      exact q7 ((hv.1 m (by omega) q3 q5).trans (hv.1 m' (by omega) q4 q6).symm)) v
    refine ⟨k + 1, ?_⟩
    rw [G_Lm_constrain_L]
    exact ⟨fun _ => hk k (Nat.le_refl k), fun q => absurd (by rw [show l = 5 by omega]; decide) q⟩
  | succ j ih =>
    intro l v hl hv
    have hi : vp_in (nI (l * 8 + n)) 40 := vp_in_nI (by omega) (by omega)
    -- the next state of 'one'
    by_cases hin : inG g x y n l
    · by_cases hz : g 8 (l * 8 + n) = 0
      · obtain ⟨k, hk⟩ := ih (l + 1) v (by omega) (by
          refine ⟨fun m hm q1 q2 => ?_, ?_⟩
          · by_cases em : m = l
            · subst em; exact absurd hz q2
            · exact hv.1 m (by omega) q1 q2
          · rcases hv.2 with ⟨e1, q⟩ | ⟨e1, m, q1, q2⟩
            · refine Or.inl ⟨e1, fun m hm q1 => ?_⟩
              by_cases em : m = l
              · subst em; exact hz
              · exact q m (by omega) q1
            · exact Or.inr ⟨e1, m, by omega, q2⟩)
        refine ⟨k + 1, ?_⟩
        rw [G_Lm_constrain_L, ll_8c, nI_clamp (by omega), nI_1]
        exact ⟨fun q => absurd q (nI_ge (a := l) (b := 5) (by omega) (by omega)), fun _ => ⟨hi, fun _ => ⟨hi, fun q => absurd hz q, fun _ => hk⟩, fun _ => ⟨hi, fun _ => hk, fun _ => ⟨hi, fun q => absurd hz q, fun _ => hk⟩⟩⟩⟩
      · have hp := hpos l (by omega) hz
        by_cases hc : v = 0 ∨ g 8 (l * 8 + n) = v
        · obtain ⟨k, hk⟩ := ih (l + 1) (g 8 (l * 8 + n)) (by omega) (by
            refine ⟨fun m hm q1 q2 => ?_, Or.inr ⟨hp, l, by omega, hin, rfl⟩⟩
            by_cases em : m = l
            · rw [em]
            · rcases hc with e | e
              · rcases hv.2 with ⟨e1, q⟩ | ⟨e1, m', -⟩
                · exact absurd (q m (by omega) q1) q2
                · rw [e] at e1; exact absurd e1 (by decide)
              · rw [e]; exact hv.1 m (by omega) q1 q2)
          refine ⟨k + 1, ?_⟩
          have body : ((v ≤ 0 → (vp_in (nI (l * 8 + n)) 40 ∧ (G_Lm_constrain_L K k 0 a1 a2 (nI n) x y (g 8 (l * 8 + n)) (nI (l + 1)) g))) ∧ (¬ v ≤ 0 → (vp_in (nI (l * 8 + n)) 40 ∧ ((g 8 (l * 8 + n) = v → (vp_in (nI (l * 8 + n)) 40 ∧ (G_Lm_constrain_L K k 0 a1 a2 (nI n) x y (g 8 (l * 8 + n)) (nI (l + 1)) g))) ∧ (¬ g 8 (l * 8 + n) = v → K (-9) g))))) := by
            refine ⟨fun _ => ⟨hi, hk⟩, fun q => ⟨hi, fun _ => ⟨hi, hk⟩, fun z => ?_⟩⟩
            rcases hc with e | e
            · rw [e] at q; exact absurd (by decide) q
            · exact absurd e z
          rw [G_Lm_constrain_L, ll_8c, nI_clamp (by omega), nI_1]
          exact ⟨fun q => absurd q (nI_ge (a := l) (b := 5) (by omega) (by omega)), fun _ => ⟨hi, fun _ => ⟨hi, fun _ => body, fun q => absurd q hz⟩, fun q => ⟨hi, fun z => absurd hin (fun w => w.elim q z), fun _ => ⟨hi, fun _ => body, fun q => absurd q hz⟩⟩⟩⟩
        · have hconf : ∃ m m', m < 5 ∧ m' < 5 ∧ inG g x y n m ∧ inG g x y n m' ∧ ¬ g 8 (m * 8 + n) = 0 ∧ ¬ g 8 (m' * 8 + n) = 0 ∧ ¬ g 8 (m * 8 + n) = g 8 (m' * 8 + n) := by
            rcases hv.2 with ⟨e1, -⟩ | ⟨e1, m, q1, q2, q3⟩
            · exact absurd (Or.inl e1) hc
            · exact ⟨l, m, by omega, by omega, hin, q2, hz, by rw [q3]; exact fun z => hc (Or.inl z), by rw [q3]; exact fun z => hc (Or.inr z)⟩
          have hvp : ¬ v ≤ 0 := by
            rcases hv.2 with ⟨e1, -⟩ | ⟨e1, -⟩
            · exact absurd (Or.inl e1) hc
            · exact Int32.not_le.mpr e1
          refine ⟨1, ?_⟩
          have body : ((v ≤ 0 → (vp_in (nI (l * 8 + n)) 40 ∧ (G_Lm_constrain_L K 0 0 a1 a2 (nI n) x y (g 8 (l * 8 + n)) (nI (l + 1)) g))) ∧ (¬ v ≤ 0 → (vp_in (nI (l * 8 + n)) 40 ∧ ((g 8 (l * 8 + n) = v → (vp_in (nI (l * 8 + n)) 40 ∧ (G_Lm_constrain_L K 0 0 a1 a2 (nI n) x y (g 8 (l * 8 + n)) (nI (l + 1)) g))) ∧ (¬ g 8 (l * 8 + n) = v → K (-9) g))))) :=
            ⟨fun q => absurd q hvp, fun _ => ⟨hi, fun q => absurd (Or.inr q) hc, fun _ => h0 hconf⟩⟩
          rw [G_Lm_constrain_L, ll_8c, nI_clamp (by omega), nI_1]
          exact ⟨fun q => absurd q (nI_ge (a := l) (b := 5) (by omega) (by omega)), fun _ => ⟨hi, fun _ => ⟨hi, fun _ => body, fun q => absurd q hz⟩, fun q => ⟨hi, fun z => absurd hin (fun w => w.elim q z), fun _ => ⟨hi, fun _ => body, fun q => absurd q hz⟩⟩⟩⟩
    · obtain ⟨k, hk⟩ := ih (l + 1) v (by omega) (by
        refine ⟨fun m hm q1 q2 => ?_, ?_⟩
        · by_cases em : m = l
          · subst em; exact absurd q1 hin
          · exact hv.1 m (by omega) q1 q2
        · rcases hv.2 with ⟨e1, q⟩ | ⟨e1, m, q1, q2⟩
          · refine Or.inl ⟨e1, fun m hm q1 => ?_⟩
            by_cases em : m = l
            · subst em; exact absurd q1 hin
            · exact q m (by omega) q1
          · exact Or.inr ⟨e1, m, by omega, q2⟩)
      refine ⟨k + 1, ?_⟩
      rw [G_Lm_constrain_L, ll_8c, nI_clamp (by omega), nI_1]
      exact ⟨fun q => absurd q (nI_ge (a := l) (b := 5) (by omega) (by omega)), fun _ => ⟨hi, fun q => absurd (Or.inl q) hin, fun _ => ⟨hi, fun _ => hk, fun q => absurd (Or.inr q) hin⟩⟩⟩
theorem sm_constrain {f g : ll_S} (h : ll_Sim f g) (a1 a2 a3 : Int32) : G_La_constrain f a1 a2 a3 (fun r f' => G_Lm_constrain g a1 a2 a3 (fun r' g' => r = r' ∧ ll_Sim f' g')) := by
  obtain ⟨hA, ⟨d, hB⟩, s7, s8⟩ := id h
  have hd := hB.1
  unfold G_La_constrain
  refine x_inRange (fun c => ⟨fun _ => m_place (fun _ => ⟨fun _ => ⟨rfl, h⟩, fun q => absurd rfl q⟩) (fun L n q1 q2 q3 q4 => absurd ⟨L, n, q1, q2, q3, q4⟩ c), fun q => absurd rfl q⟩) (fun a n ha hn e1 e3 => ⟨fun q => absurd q (by decide), fun _ => ?_⟩)
  subst e1 e3
  refine x_inRange (fun c => ⟨fun q => absurd rfl q, fun _ => m_place (fun q => absurd ⟨a, n, ha, hn, rfl, rfl⟩ q) (fun _ _ _ _ _ _ => ⟨fun q => absurd q (by decide), fun _ => m_in0 (n := 4) rfl (by omega) (fun _ => ⟨fun q => absurd rfl q, fun _ => ⟨rfl, h⟩⟩) (fun b hb eb => absurd ⟨b, n, hb, hn, eb, rfl⟩ c)⟩)⟩) (fun b n' hb hn' e2 e3 => ⟨fun _ => ?_, fun q => absurd q (by decide)⟩)
  clear e3
  subst e2
  -- sets and groups
  have hin : ∀ m, m < 5 → (bt (f 7 (a * 8 + n) ||| f 7 (b * 8 + n)) m = true ↔ inG g (g 10 (a * 8 + n)) (g 10 (b * 8 + n)) n m) := by
    intro m hm
    rw [b_or, Bool.or_eq_true, hA.2.2.2.1 a m n ha hm hn, hA.2.2.2.1 b m n hb hm hn]
    exact ⟨fun q => q.elim (fun q => Or.inl q.symm) (fun q => Or.inr q.symm), fun q => q.elim (fun q => Or.inl q.symm) (fun q => Or.inr q.symm)⟩
  have hrec : ∀ m, m < 5 → g 8 (m * 8 + n) = f 5 (m * 8 + n) := fun m hm => (hB.2.2.2.2.1 (m * 8 + n) (by omega)).1
  have hpos : ∀ m, m < 5 → ¬ g 8 (m * 8 + n) = 0 → 0 < g 8 (m * 8 + n) := by
    intro m hm q
    obtain ⟨e8, j, hj, e5⟩ := hB.2.2.2.2.1 (m * 8 + n) (by omega)
    rw [e8, e5] at q ⊢
    rw [show (0 : Int32) = nI 0 from rfl]
    refine nI_lt ?_ (by omega)
    rcases Nat.eq_zero_or_pos j with z | z
    · rw [z] at q; exact absurd rfl q
    · exact z
  have hcf : CF f (f 7 (a * 8 + n) ||| f 7 (b * 8 + n)) n ↔ (∃ m m', m < 5 ∧ m' < 5 ∧ inG g (g 10 (a * 8 + n)) (g 10 (b * 8 + n)) n m ∧ inG g (g 10 (a * 8 + n)) (g 10 (b * 8 + n)) n m' ∧ ¬ g 8 (m * 8 + n) = 0 ∧ ¬ g 8 (m' * 8 + n) = 0 ∧ ¬ g 8 (m * 8 + n) = g 8 (m' * 8 + n)) := by
    constructor
    · rintro ⟨m, m', q1, q2, q3, q4, q5, q6, q7⟩
      exact ⟨m, m', q1, q2, (hin m q1).mp q3, (hin m' q2).mp q4, by rw [hrec m q1]; exact q5, by rw [hrec m' q2]; exact q6, by rw [hrec m q1, hrec m' q2]; exact q7⟩
    · rintro ⟨m, m', q1, q2, q3, q4, q5, q6, q7⟩
      exact ⟨m, m', q1, q2, (hin m q1).mpr q3, (hin m' q2).mpr q4, by rw [← hrec m q1]; exact q5, by rw [← hrec m' q2]; exact q6, by rw [← hrec m q1, ← hrec m' q2]; exact q7⟩
  have mm : ∀ (K : Int32 → ll_S → Prop), (CF f (f 7 (a * 8 + n) ||| f 7 (b * 8 + n)) n → K (-9) g) → (¬ CF f (f 7 (a * 8 + n) ||| f 7 (b * 8 + n)) n → ∀ g', jM g g' (g 10 (a * 8 + n)) (g 10 (b * 8 + n)) (if g 10 (b * 8 + n) ≤ g 10 (a * 8 + n) then g 10 (b * 8 + n) else g 10 (a * 8 + n)) n 5 → K 0 g') → G_Lm_constrain g (nI a) (nI b) (nI n) K := by
    intro K k0 k1
    unfold G_Lm_constrain
    refine m_place (fun q => absurd ⟨a, n, ha, hn, rfl, rfl⟩ q) (fun _ _ _ _ _ _ => ⟨fun q => absurd q (by decide), fun _ => m_in0 (n := 4) rfl (by omega) (fun q => absurd rfl (ll_out (by omega) q b hb)) (fun _ _ _ => ⟨fun _ => ?_, fun q => absurd q (by decide)⟩)⟩)
    rw [ll_8c, ll_8c, nI_clamp (by omega), nI_clamp (by omega)]
    refine ⟨vp_in_nI (by omega) (by omega), vp_in_nI (by omega) (by omega), ?_⟩
    rw [← nI_0]
    refine m_one_L hn hpos (fun q => k0 (hcf.mpr q)) (fun q v => ⟨6, fun k' hk' => ?_⟩) 5 0 (nI 0) (by omega) ⟨fun m hm => by omega, Or.inl ⟨rfl, fun m hm => by omega⟩⟩
    exact m_join_L hn (k1 (fun z => q (hcf.mp z))) k' 0 g (by omega) (by omega) ⟨fun _ _ => rfl, fun a n' _ _ => ⟨fun q => by omega, fun _ => rfl⟩⟩
  refine x_join ha hb hn (fun hc => ⟨fun _ => mm _ (fun _ => ⟨rfl, h⟩) (fun q => absurd hc q), fun q => absurd rfl q⟩) (fun hc f' hf => ⟨fun q => absurd q (by decide), fun _ => mm _ (fun q => absurd q hc) (fun _ g' hg => ⟨rfl, ?_⟩)⟩)
  -- the relation behind it
  obtain ⟨hf0, hf7⟩ := hf
  obtain ⟨hg0, hg10⟩ := hg
  have kA : sA f g → (∀ a' b' n', a' < 5 → b' < 5 → n' < 8 → (bt (f' 7 (a' * 8 + n')) b' = true ↔ g' 10 (a' * 8 + n') = g' 10 (b' * 8 + n'))) → sA f' g' := by
    intro hA h4
    obtain ⟨x1, x2, x3, x4, x5⟩ := hA
    unfold sA
    rw [hf0 0 (by decide), hf0 1 (by decide), hf0 2 (by decide), hf0 3 (by decide), hf0 4 (by decide), hf0 13 (by decide), hf0 14 (by decide), hf0 15 (by decide), hg0 0 (by decide), hg0 1 (by decide), hg0 2 (by decide), hg0 3 (by decide), hg0 4 (by decide), hg0 5 (by decide), hg0 6 (by decide), hg0 7 (by decide), hg0 16 (by decide), hg0 17 (by decide), hg0 18 (by decide)]
    exact ⟨x1, x2, x3, h4, x5⟩
  have kB : sB f' g' 0 d := by
    unfold sB
    rw [hf0 16 (by decide), hf0 8 (by decide), hf0 9 (by decide), hf0 10 (by decide), hf0 11 (by decide), hf0 12 (by decide), hf0 5 (by decide), hf0 6 (by decide), hf0 17 (by decide), hg0 22 (by decide), hg0 11 (by decide), hg0 12 (by decide), hg0 13 (by decide), hg0 14 (by decide), hg0 15 (by decide), hg0 8 (by decide), hg0 9 (by decide), hg0 23 (by decide), hg0 26 (by decide)]
    exact hB
  refine ⟨kA hA ?_, ⟨d, kB⟩, by rw [hf0 19 (by decide), hg0 27 (by decide)]; exact s7, by rw [hf0 20 (by decide), hg0 28 (by decide)]; exact s8⟩
  intro a' b' n' ha' hb' hn'
  rw [hf7 a' n' ha' hn']
  have hmn : (if g 10 (b * 8 + n) ≤ g 10 (a * 8 + n) then g 10 (b * 8 + n) else g 10 (a * 8 + n)) = g 10 (a * 8 + n) ∨ (if g 10 (b * 8 + n) ≤ g 10 (a * 8 + n) then g 10 (b * 8 + n) else g 10 (a * 8 + n)) = g 10 (b * 8 + n) := by
    split
    · exact Or.inr rfl
    · exact Or.inl rfl
  generalize (if g 10 (b * 8 + n) ≤ g 10 (a * 8 + n) then g 10 (b * 8 + n) else g 10 (a * 8 + n)) = mn at hmn hg10
  have old := hA.2.2.2.1 a' b' n' ha' hb' hn'
  by_cases en : n' = n
  · subst en
    by_cases ca : inG g (g 10 (a * 8 + n')) (g 10 (b * 8 + n')) n' a'
    · rw [if_pos ⟨rfl, ha', (hin a' ha').mpr ca⟩, (hg10 a' n' ha' hn').1 ⟨rfl, ha', ca⟩, hin b' hb']
      by_cases cb : inG g (g 10 (a * 8 + n')) (g 10 (b * 8 + n')) n' b'
      · rw [(hg10 b' n' hb' hn').1 ⟨rfl, hb', cb⟩]
        exact ⟨fun _ => rfl, fun _ => cb⟩
      · rw [(hg10 b' n' hb' hn').2 (fun z => cb z.2.2)]
        refine ⟨fun q => absurd q cb, fun q => absurd ?_ cb⟩
        rcases hmn with z | z
        · exact Or.inl (q.symm.trans z)
        · exact Or.inr (q.symm.trans z)
    · rw [if_neg (fun z => ca ((hin a' ha').mp z.2.2)), (hg10 a' n' ha' hn').2 (fun z => ca z.2.2), old]
      by_cases cb : inG g (g 10 (a * 8 + n')) (g 10 (b * 8 + n')) n' b'
      · rw [(hg10 b' n' hb' hn').1 ⟨rfl, hb', cb⟩]
        refine ⟨fun q => absurd ?_ ca, fun q => absurd ?_ ca⟩
        · rcases cb with z | z
          · exact Or.inl (q.trans z)
          · exact Or.inr (q.trans z)
        · rcases hmn with z | z
          · exact Or.inl (q.trans z)
          · exact Or.inr (q.trans z)
      · rw [(hg10 b' n' hb' hn').2 (fun z => cb z.2.2)]
  · rw [if_neg (fun z => en z.1), (hg10 a' n' ha' hn').2 (fun z => en z.1), (hg10 b' n' hb' hn').2 (fun z => en z.1)]
    exact old
