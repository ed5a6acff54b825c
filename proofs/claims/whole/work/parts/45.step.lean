/-! the reference's small moves, as functions of its rows -/
def mC (g : ll_S) (v w : Int32) : ll_S := ll_w (ll_w g 24 0 v) 25 0 w
def mE (g : ll_S) (dep c : Nat) (v w : Int32) : ll_S := mC (ll_w (ll_w g 23 0 (nI dep)) 9 c 0) v w
def mG (g : ll_S) (dep : Nat) (s : Int32) : ll_S := ll_w g 20 dep s
def mPush (g : ll_S) (dep c : Nat) : ll_S := ll_w (ll_w (ll_w (ll_w (ll_w (ll_w (ll_w g 26 0 (g 26 0 + 1)) 9 c 1) 19 dep (nI c)) 20 dep 0) 21 dep 0) 23 0 (nI (dep + 1))) 24 0 0
def mB (g : ll_S) (dep c : Nat) : ll_S := if g 8 c ≤ 0 then (if g 9 c = 0 then mPush g dep c else mC (ll_w g 26 0 (g 26 0 + 1)) (-10) 0) else mC (ll_w g 26 0 (g 26 0 + 1)) (g 8 c) 0
theorem m_come {g : ll_S} {a b : Int32} {K : ll_S → Prop} : G_Lm_come g a b K ↔ K (mC g a b) := by simp only [G_Lm_come, forall_eq, mC]
theorem m_end {g : ll_S} {dep c : Nat} {v w : Int32} {K : ll_S → Prop} (hd : g 23 0 = nI (dep + 1)) (h : dep < 41) (hc : g 19 dep = nI c) (hc2 : c < 40) : G_Lm_end g v w K ↔ K (mE g dep c v w) := by
  have ed : (nI dep).toNatClampNeg = dep := nI_clamp (by omega)
  have ec : (nI c).toNatClampNeg = c := nI_clamp (by omega)
  unfold G_Lm_end
  rw [hd, nI_pred]
  simp (disch := decide) only [forall_eq, ll_w_eq, ll_w_ne, ite_true, ed, hc, ec, m_come, ll_nar0]
  exact ⟨fun h => h.2.2, fun h2 => ⟨vp_in_nI h (by omega), vp_in_nI hc2 (by omega), h2⟩⟩
theorem m_go {g : ll_S} {dep : Nat} {v : Int32} {K : ll_S → Prop} (hd : g 23 0 = nI (dep + 1)) (h : dep < 41) : G_Lm_go g v K ↔ K (mG g dep v) := by
  unfold G_Lm_go
  rw [hd, nI_pred, nI_clamp (by omega)]
  simp only [forall_eq]
  exact ⟨fun h => h.2, fun h2 => ⟨vp_in_nI h (by omega), h2⟩⟩
theorem m_begin {g : ll_S} {dep L n : Nat} {K : ll_S → Prop} (hd : g 23 0 = nI dep) (h : dep < 41) (hL : L < 5) (hn : n < 8) : G_Lm_begin g (nI L) (nI n) K ↔ K (mB g dep (L * 8 + n)) := by
  have ed : (nI dep).toNatClampNeg = dep := nI_clamp (by omega)
  have ec : (nI (L * 8 + n)).toNatClampNeg = L * 8 + n := nI_clamp (by omega)
  have hi : vp_in (nI (L * 8 + n)) 40 := vp_in_nI (by omega) (by omega)
  have hj : vp_in (nI dep) 41 := vp_in_nI h (by omega)
  unfold G_Lm_begin mB mPush
  simp (disch := decide) only [forall_eq, ll_8c, ll_w_eq, ll_w_ne, ite_true, ec, hd, ed, m_come, ll_nar1, nI_1]
  constructor
  · intro h2
    split
    · rename_i c1
      split
      · rename_i c2
        exact (((h2.2.1 c1).2.1 c2).2).2.2.2
      · rename_i c2
        exact (h2.2.1 c1).2.2 c2
    · rename_i c1
      exact (h2.2.2 c1).2
  · intro h2
    refine ⟨hi, fun c1 => ⟨hi, fun c2 => ⟨hi, hj, hj, hj, ?_⟩, fun c2 => ?_⟩, fun c1 => ⟨hi, ?_⟩⟩
    · rw [if_pos c1, if_pos c2] at h2; exact h2
    · rw [if_pos c1, if_neg c2] at h2; exact h2
    · rw [if_neg c1] at h2; exact h2
theorem m_ask {g : ll_S} {dep L n : Nat} {t : Int32} {K : ll_S → Prop} (hd : g 23 0 = nI (dep + 1)) (h : dep < 40) (hL : L < 5) (hn : n < 8) : G_Lm_ask g (nI L) (nI n) t K ↔ K (mB (mG g dep t) (dep + 1) (L * 8 + n)) := by
  unfold G_Lm_ask
  rw [m_go hd (by omega)]
  rw [m_begin (dep := dep + 1) (show (mG g dep t) 23 0 = _ from hd) (by omega) hL hn]
/-- from g the loop comes to g' -/
def Rch (g g' : ll_S) : Prop := ∀ K : ll_S → Prop, (∃ k, G_Lm_run_L K k 0 g') → ∃ k, G_Lm_run_L K k 0 g
theorem Rch.refl (g : ll_S) : Rch g g := fun _ h => h
theorem Rch.trans {a b c : ll_S} (h1 : Rch a b) (h2 : Rch b c) : Rch a c := fun K h => h1 K (h2 K h)
def Fr (g : ll_S) (dep c s : Nat) : Prop := g 23 0 = nI (dep + 1) ∧ dep < 40 ∧ g 19 dep = nI c ∧ c < 40 ∧ g 20 dep = nI s
theorem m_runE {g : ll_S} {dep c s : Nat} (F : Fr g dep c s) {K : ll_S → Prop} {k : Nat} (h : ((¬ nI s = 0 → ((¬ nI s = (1 : Int32) → ((¬ nI s = (2 : Int32) → ((¬ nI s = (3 : Int32) → ((¬ nI s = (4 : Int32) → ((nI s = (5 : Int32) → (G_Lm_resolved g (nI c) (nI s) (fun f9 => (G_Lm_run_L K k 0  f9)))) ∧ (¬ nI s = (5 : Int32) → ((¬ nI s = (6 : Int32) → ((¬ nI s = (7 : Int32) → (G_Lm_make g (nI c) (fun f13 => (G_Lm_run_L K k 0  f13)))) ∧ (nI s = (7 : Int32) → (vp_in (nI c) 40 ∧ (G_Lm_askFor g (nI c) (g 4 c) 6 (fun f15 => (G_Lm_run_L K k 0  f15))))))) ∧ (nI s = (6 : Int32) → (G_Lm_resolved g (nI c) (nI s) (fun f17 => (G_Lm_run_L K k 0  f17)))))))) ∧ (nI s = (4 : Int32) → (G_Lm_define g (nI c) (fun f19 => (G_Lm_run_L K k 0  f19)))))) ∧ (nI s = (3 : Int32) → (G_Lm_unused g (nI c) (fun f21 => (G_Lm_run_L K k 0  f21)))))) ∧ (nI s = (2 : Int32) → (G_Lm_answered g (nI c) (fun f23 => (G_Lm_run_L K k 0  f23)))))) ∧ (nI s = (1 : Int32) → (G_Lm_parentAnswers g  (fun f25 => (G_Lm_run_L K k 0  f25)))))) ∧ (nI s = 0 → (G_Lm_start g (nI c) (fun f27 => (G_Lm_run_L K k 0  f27)))))) : G_Lm_run_L K (k + 1) 0 g := by
  obtain ⟨hd, hdep, hat, hc, hst⟩ := F
  rw [G_Lm_run_L, hd, nI_pred, nI_clamp (by omega), hat, hst, nI_clamp (by omega)]
  exact ⟨fun q => absurd q (nI_nle (by omega) (by omega)), fun _ => ⟨vp_in_nI (by omega) (by omega), vp_in_nI (by omega) (by omega), h⟩⟩
theorem r_0 {g g' : ll_S} {dep c : Nat} (F : Fr g dep c 0) (h : ∀ K : ll_S → Prop, K g' → G_Lm_start g (nI c) K) : Rch g g' := by
  rintro K ⟨k, hk⟩
  exact ⟨k + 1, m_runE F ⟨fun q => absurd rfl q, fun _ => h _ hk⟩⟩
theorem r_1 {g g' : ll_S} {dep c : Nat} (F : Fr g dep c 1) (h : ∀ K : ll_S → Prop, K g' → G_Lm_parentAnswers g K) : Rch g g' := by
  rintro K ⟨k, hk⟩
  exact ⟨k + 1, m_runE F ⟨fun _ => ⟨fun q => absurd rfl q, fun _ => h _ hk⟩, fun q => absurd q (by decide)⟩⟩
theorem r_2 {g g' : ll_S} {dep c : Nat} (F : Fr g dep c 2) (h : ∀ K : ll_S → Prop, K g' → G_Lm_answered g (nI c) K) : Rch g g' := by
  rintro K ⟨k, hk⟩
  exact ⟨k + 1, m_runE F ⟨fun _ => ⟨fun _ => ⟨fun q => absurd rfl q, fun _ => h _ hk⟩, fun q => absurd q (by decide)⟩, fun q => absurd q (by decide)⟩⟩
theorem r_3 {g g' : ll_S} {dep c : Nat} (F : Fr g dep c 3) (h : ∀ K : ll_S → Prop, K g' → G_Lm_unused g (nI c) K) : Rch g g' := by
  rintro K ⟨k, hk⟩
  exact ⟨k + 1, m_runE F ⟨fun _ => ⟨fun _ => ⟨fun _ => ⟨fun q => absurd rfl q, fun _ => h _ hk⟩, fun q => absurd q (by decide)⟩, fun q => absurd q (by decide)⟩, fun q => absurd q (by decide)⟩⟩
theorem r_4 {g g' : ll_S} {dep c : Nat} (F : Fr g dep c 4) (h : ∀ K : ll_S → Prop, K g' → G_Lm_define g (nI c) K) : Rch g g' := by
  rintro K ⟨k, hk⟩
  exact ⟨k + 1, m_runE F ⟨fun _ => ⟨fun _ => ⟨fun _ => ⟨fun _ => ⟨fun q => absurd rfl q, fun _ => h _ hk⟩, fun q => absurd q (by decide)⟩, fun q => absurd q (by decide)⟩, fun q => absurd q (by decide)⟩, fun q => absurd q (by decide)⟩⟩
theorem r_5 {g g' : ll_S} {dep c : Nat} (F : Fr g dep c 5) (h : ∀ K : ll_S → Prop, K g' → G_Lm_resolved g (nI c) (nI 5) K) : Rch g g' := by
  rintro K ⟨k, hk⟩
  exact ⟨k + 1, m_runE F ⟨fun _ => ⟨fun _ => ⟨fun _ => ⟨fun _ => ⟨fun _ => ⟨fun _ => h _ hk, fun q => absurd rfl q⟩, fun q => absurd q (by decide)⟩, fun q => absurd q (by decide)⟩, fun q => absurd q (by decide)⟩, fun q => absurd q (by decide)⟩, fun q => absurd q (by decide)⟩⟩
theorem r_6 {g g' : ll_S} {dep c : Nat} (F : Fr g dep c 6) (h : ∀ K : ll_S → Prop, K g' → G_Lm_resolved g (nI c) (nI 6) K) : Rch g g' := by
  rintro K ⟨k, hk⟩
  exact ⟨k + 1, m_runE F ⟨fun _ => ⟨fun _ => ⟨fun _ => ⟨fun _ => ⟨fun _ => ⟨fun q => absurd q (by decide), fun _ => ⟨fun q => absurd rfl q, fun _ => h _ hk⟩⟩, fun q => absurd q (by decide)⟩, fun q => absurd q (by decide)⟩, fun q => absurd q (by decide)⟩, fun q => absurd q (by decide)⟩, fun q => absurd q (by decide)⟩⟩
theorem r_7 {g g' : ll_S} {dep c : Nat} (F : Fr g dep c 7) (h : ∀ K : ll_S → Prop, K g' → G_Lm_askFor g (nI c) (g 4 c) 6 K) : Rch g g' := by
  rintro K ⟨k, hk⟩
  exact ⟨k + 1, m_runE F ⟨fun _ => ⟨fun _ => ⟨fun _ => ⟨fun _ => ⟨fun _ => ⟨fun q => absurd q (by decide), fun _ => ⟨fun _ => ⟨fun q => absurd rfl q, fun _ => ⟨vp_in_nI F.2.2.2.1 (by omega), h _ hk⟩⟩, fun q => absurd q (by decide)⟩⟩, fun q => absurd q (by decide)⟩, fun q => absurd q (by decide)⟩, fun q => absurd q (by decide)⟩, fun q => absurd q (by decide)⟩, fun q => absurd q (by decide)⟩⟩
theorem r_8 {g g' : ll_S} {dep c : Nat} (F : Fr g dep c 8) (h : ∀ K : ll_S → Prop, K g' → G_Lm_make g (nI c) K) : Rch g g' := by
  rintro K ⟨k, hk⟩
  exact ⟨k + 1, m_runE F ⟨fun _ => ⟨fun _ => ⟨fun _ => ⟨fun _ => ⟨fun _ => ⟨fun q => absurd q (by decide), fun _ => ⟨fun _ => ⟨fun _ => h _ hk, fun q => absurd q (by decide)⟩, fun q => absurd q (by decide)⟩⟩, fun q => absurd q (by decide)⟩, fun q => absurd q (by decide)⟩, fun q => absurd q (by decide)⟩, fun q => absurd q (by decide)⟩, fun q => absurd q (by decide)⟩⟩
/-! counting what is under way -/
theorem cnt_le (b : Nat → Int32) : ∀ n, ll_cnt b n ≤ n
  | 0 => Nat.le_refl 0
  | n + 1 => by
    have := cnt_le b n
    unfold ll_cnt
    split <;> omega
theorem cnt_full {b : Nat → Int32} : ∀ {n : Nat}, ll_cnt b n = n → ∀ c, c < n → ¬ b c = 0
  | 0, _, c, hc => by omega
  | n + 1, h, c, hc => by
    have h1 := cnt_le b n
    unfold ll_cnt at h
    split at h
    · omega
    · rename_i hz
      by_cases e : c = n
      · subst e; exact hz
      · exact cnt_full (n := n) (by omega) c (by omega)
theorem cnt_congr {b b' : Nat → Int32} : ∀ {n : Nat}, (∀ c, c < n → b' c = b c) → ll_cnt b' n = ll_cnt b n
  | 0, _ => rfl
  | n + 1, h => by
    unfold ll_cnt
    rw [cnt_congr (n := n) (fun c hc => h c (by omega)), h n (by omega)]
theorem cnt_set {b : Nat → Int32} {c : Nat} {v : Int32} (hv : ¬ v = 0) (h0 : b c = 0) : ∀ {n : Nat}, ll_cnt (upd b c v) n = ll_cnt b n + (if c < n then 1 else 0)
  | 0 => rfl
  | n + 1 => by
    unfold ll_cnt
    rw [cnt_set hv h0 (n := n)]
    by_cases e : n = c
    · subst e
      simp [upd, hv, h0]
    · have e2 : upd b c v n = b n := by simp [upd, e]
      rw [e2]
      by_cases h1 : c < n
      · simp [h1, show c < n + 1 by omega]; omega
      · simp [h1, show ¬ c < n + 1 by omega]
theorem cnt_clr {b : Nat → Int32} {c : Nat} (h0 : ¬ b c = 0) : ∀ {n : Nat}, ll_cnt (upd b c 0) n + (if c < n then 1 else 0) = ll_cnt b n
  | 0 => rfl
  | n + 1 => by
    have ih := cnt_clr h0 (n := n)
    unfold ll_cnt
    by_cases e : n = c
    · subst e
      simp [upd, h0] at ih ⊢
      omega
    · have e2 : upd b c 0 n = b n := by simp [upd, e]
      rw [e2]
      by_cases h1 : c < n
      · simp [h1, show c < n + 1 by omega] at ih ⊢; omega
      · simp [h1, show ¬ c < n + 1 by omega] at ih ⊢; omega
