/-! ===== Int32 by its bits: bt x i ===== -/
def bt (x : Int32) (i : Nat) : Bool := x.toBitVec.getLsbD i
theorem b_ext {x y : Int32} (h : ∀ i, i < 32 → bt x i = bt y i) : x = y := Int32.toBitVec_inj.mp (BitVec.eq_of_getLsbD_eq (fun i hi => h i hi))
theorem b_or (x y : Int32) (i : Nat) : bt (x ||| y) i = (bt x i || bt y i) := by unfold bt; rw [Int32.toBitVec_or, BitVec.getLsbD_or]
theorem b_and (x y : Int32) (i : Nat) : bt (x &&& y) i = (bt x i && bt y i) := by unfold bt; rw [Int32.toBitVec_and, BitVec.getLsbD_and]
theorem b_xor (x y : Int32) (i : Nat) : bt (x ^^^ y) i = (bt x i ^^ bt y i) := by unfold bt; rw [Int32.toBitVec_xor, BitVec.getLsbD_xor]
theorem b_big {x : Int32} {i : Nat} (h : 32 ≤ i) : bt x i = false := BitVec.getLsbD_of_ge _ _ h
theorem b_255 (i : Nat) : bt 255 i = decide (i < 8) := by
  rcases Nat.lt_or_ge i 32 with h | h
  · exact (by decide +kernel : ∀ i, i < 32 → bt 255 i = decide (i < 8)) i h
  · rw [b_big h, decide_eq_false (by omega)]
theorem b_65535 (i : Nat) : bt 65535 i = decide (i < 16) := by
  rcases Nat.lt_or_ge i 32 with h | h
  · exact (by decide +kernel : ∀ i, i < 32 → bt 65535 i = decide (i < 16)) i h
  · rw [b_big h, decide_eq_false (by omega)]
theorem b_m1 : ∀ i, i < 32 → bt (-1) i = true := by decide +kernel
theorem b_0 (i : Nat) : bt 0 i = false := BitVec.getLsbD_zero
theorem s_l : ∀ n, n < 32 → ((nI n &&& 31).toBitVec.smod 32).toNat = n := by decide +kernel
theorem s_u : ∀ n, n < 32 → (((nI n).toUInt32 &&& Int32.toUInt32 31).toBitVec % 32).toNat = n := by decide +kernel
theorem b_shl (n : Nat) (hn : n < 32) (x : Int32) {i : Nat} (hi : i < 32) : bt (x <<< (nI n &&& 31)) i = (decide (n ≤ i) && bt x (i - n)) := by
  unfold bt
  rw [Int32.toBitVec_shiftLeft]
  show (x.toBitVec <<< ((nI n &&& 31).toBitVec.smod 32).toNat).getLsbD i = _
  rw [s_l n hn, BitVec.getLsbD_shiftLeft]
  rcases Nat.lt_or_ge i n with h | h
  · simp [h, Nat.not_le.mpr h]
  · simp [hi, h, Nat.not_lt.mpr h]
theorem b_ushr (n : Nat) (hn : n < 32) (x : Int32) (i : Nat) : bt ((x.toUInt32 >>> ((nI n).toUInt32 &&& Int32.toUInt32 31)).toInt32) i = bt x (n + i) := by
  show (x.toUInt32 >>> ((nI n).toUInt32 &&& Int32.toUInt32 31)).toBitVec.getLsbD i = x.toUInt32.toBitVec.getLsbD (n + i)
  rw [UInt32.toBitVec_shiftRight]
  show (x.toUInt32.toBitVec >>> (((nI n).toUInt32 &&& Int32.toUInt32 31).toBitVec % 32).toNat).getLsbD i = _
  rw [s_u n hn, BitVec.getLsbD_ushiftRight]
theorem b_sshr (n : Nat) (hn : n < 32) (x : Int32) {i : Nat} (hi : i < 32) : bt (x >>> (nI n &&& 31)) i = if n + i < 32 then bt x (n + i) else bt x 31 := by
  unfold bt
  rw [Int32.toBitVec_shiftRight]
  show (x.toBitVec.sshiftRight ((nI n &&& 31).toBitVec.smod 32).toNat).getLsbD i = _
  rw [s_l n hn, BitVec.getLsbD_sshiftRight, BitVec.msb_eq_getLsbD_last]
  simp [hi]

/-! ===== pure rows of my own ===== -/
theorem ll_bit {s : Int32} {l : Nat} (hl : l < 32) : ((s >>> (nI l &&& 31)) &&& 1) = 0 ↔ bt s l = false := by
  have h1 : ∀ i, i < 32 → bt 1 i = decide (i = 0) := by decide +kernel
  have h2 : bt (s >>> (nI l &&& 31)) 0 = bt s l := by rw [b_sshr l hl s (by omega)]; simp [hl]
  constructor
  · intro h
    have h3 := congrArg (fun z => bt z 0) h
    simp only [b_and, h2, h1 0 (by omega), b_0] at h3
    simpa using h3
  · intro h
    apply b_ext
    intro i hi
    rw [b_and, b_0, h1 i hi]
    by_cases hz : i = 0
    · subst hz; rw [h2, h]; rfl
    · simp [hz]
theorem ll_w_ne (f : ll_S) {k r : Nat} (i : Nat) (v : Int32) (h : r ≠ k) : ll_w f k i v r = f r := by simp [ll_w, h]
theorem ll_w_eq (f : ll_S) (k i j : Nat) (v : Int32) : ll_w f k i v k j = if j = i then v else f k j := by simp [ll_w, upd]
theorem ll_c8 (L n : Nat) : nI L * 8 + nI n = nI (L * 8 + n) := by rw [show (8 : Int32) = nI 8 from rfl, pk_mul, nI_add]
theorem ll_8c (L n : Nat) : 8 * nI L + nI n = nI (L * 8 + n) := by rw [show (8 : Int32) = nI 8 from rfl, pk_mul, nI_add, Nat.mul_comm]
theorem ll_c4 (L n : Nat) : nI L * 4 + nI n = nI (L * 4 + n) := by rw [show (4 : Int32) = nI 4 from rfl, pk_mul, nI_add]
theorem ll_4c (L n : Nat) : 4 * nI L + nI n = nI (L * 4 + n) := by rw [show (4 : Int32) = nI 4 from rfl, pk_mul, nI_add, Nat.mul_comm]
theorem ll_idx {c N : Nat} (hc : c < N) (hN : N < 2147483648) {P : Nat → Prop} : (vp_in (nI c) N ∧ P (nI c).toNatClampNeg) ↔ P c := by
  rw [nI_clamp (by omega)]
  exact ⟨fun h => h.2, fun h => ⟨vp_in_nI hc (by omega), h⟩⟩
theorem ll_div8 {L n : Nat} (hn : n < 8) (hL : L < 1000) : nI (L * 8 + n) / 8 = nI L := by
  rw [show (8 : Int32) = nI 8 from rfl, pk_div (by omega) (by omega) (by omega)]
  congr 1; omega
theorem ll_mod8 {L n : Nat} (hn : n < 8) (hL : L < 1000) : nI (L * 8 + n) - nI (L * 8 + n) / 8 * 8 = nI n := by
  rw [show (8 : Int32) = nI 8 from rfl, pk_rem (by omega) (by omega) (by omega)]
  congr 1; omega
/-! the relation between the class's rows and the reference's -/
def sA (f g : ll_S) : Prop :=
  (∀ l, l < 5 → g 0 l = f 0 l ∧ (f 0 l = -1 ∨ ∃ p, p < 5 ∧ f 0 l = nI p)) ∧
  (∀ c, c < 40 → (f 1 c = -1 ∧ g 1 c = 0) ∨ (∃ v, v ≤ 728 ∧ v % 9 < 8 ∧ f 1 c = nI v ∧ g 1 c = 1 ∧ g 2 c = nI (v % 9) ∧ g 3 c = nI (v / 9 % 9) ∧ g 4 c = nI (v / 81) ∧ g 5 c = f 2 c)) ∧
  (∀ c, c < 40 → g 6 c = f 3 c ∧ g 7 c = f 4 c ∧ ∃ w, w ≤ 6 ∧ f 3 c = nI w ∧ (w = 2 → ∃ m, m < 5 ∧ f 4 c = nI m) ∧ ((w = 3 ∨ w = 6) → ∃ m, m < 8 ∧ f 4 c = nI m)) ∧
  (∀ a b n, a < 5 → b < 5 → n < 8 → (bt (f 7 (a * 8 + n)) b = true ↔ g 10 (a * 8 + n) = g 10 (b * 8 + n))) ∧
  (∀ p, p < 120 → g 17 p = f 14 (p + 4) ∧ (f 14 (p + 4) < 0 → g 18 p = f 15 (p + 4)) ∧ ∃ v, v ≤ 8 ∧ f 13 (p + 4) = nI v ∧ g 16 p = (if v = 8 then 0 else nI (v + 1)))
def ll_cnt (b : Nat → Int32) : Nat → Nat
  | 0 => 0
  | n + 1 => ll_cnt b n + (if b n = 0 then 0 else 1)
def sB (f g : ll_S) (dep d : Nat) : Prop :=
  d ≤ 30 ∧ f 16 0 = nI d ∧ g 22 0 = nI d ∧
  (∀ i, 1 ≤ i → i ≤ d → g 11 i = f 8 i ∧ g 12 i = f 9 i ∧ g 13 i = f 10 i ∧ g 14 i = f 11 i ∧ g 15 i = f 12 i ∧ (∃ n, n < 8 ∧ f 8 i = nI n) ∧ (∃ L, L < 5 ∧ f 9 i = nI L) ∧ (∃ j, j < i ∧ f 10 i = nI j) ∧ (∃ j, j < i ∧ f 11 i = nI j)) ∧
  (∀ c, c < 40 → g 8 c = f 5 c ∧ ∃ j, j ≤ d ∧ f 5 c = nI j) ∧
  (∀ c, c < 40 → g 9 c = f 6 c ∧ (f 6 c = 0 ∨ f 6 c = 1)) ∧
  ll_cnt (f 6) 40 = dep ∧ g 23 0 = nI dep ∧ g 26 0 = f 17 0
def ll_Sim (f g : ll_S) : Prop := sA f g ∧ (∃ d, sB f g 0 d) ∧ f 19 0 = g 27 0 ∧ f 20 0 = g 28 0
/-! ranges of arguments -/
theorem ll_rng (a : Int32) (n : Nat) (hn : n < 2147483648) : (a < 0 ∨ nI n ≤ a) ∨ ∃ j, j < n ∧ a = nI j := by
  rcases pk_ix a (n := n) (by omega) with h | h | h
  · exact Or.inl (Or.inl h)
  · exact Or.inl (Or.inr h)
  · exact Or.inr h
/-- 'in' of the reference over 0 .. n - 1 -/
theorem m_in0 {g : ll_S} {a : Int32} {m : Int32} {n : Nat} {K : Int32 → ll_S → Prop} (hm : m = nI n) (hn : n < 2147483647) (h0 : (a < 0 ∨ nI (n + 1) ≤ a) → K 0 g) (h1 : ∀ j, j < n + 1 → a = nI j → K 1 g) : G_Lm_in g a 0 m K := by
  unfold G_Lm_in
  subst hm
  rcases ll_rng a (n + 1) (by omega) with h | ⟨j, hj, rfl⟩
  · refine ⟨fun _ => h0 h, fun c1 => ⟨fun _ => h0 h, fun c2 => absurd ?_ c2⟩⟩
    rcases h with h | h
    · exact absurd h c1
    · rw [Int32.le_iff_toInt_le, nI_toInt (by omega)] at h
      rw [Int32.lt_iff_toInt_lt, nI_toInt (by omega)]; omega
  · exact ⟨fun c => absurd c (nI_pos (by omega)), fun _ => ⟨fun c => absurd c (nI_nlt (by omega) (by omega)), fun _ => h1 j hj rfl⟩⟩
theorem m_place {g : ll_S} {a b : Int32} {K : Int32 → ll_S → Prop} (h0 : (¬ ∃ L n, L < 5 ∧ n < 8 ∧ a = nI L ∧ b = nI n) → K 0 g) (h1 : ∀ L n, L < 5 → n < 8 → a = nI L → b = nI n → K 1 g) : G_Lm_place g a b K := by
  unfold G_Lm_place
  refine m_in0 (n := 4) rfl (by omega) (fun h => ⟨fun _ => h0 ?_, fun c => absurd rfl c⟩) (fun L hL eL => ⟨fun c => absurd c (by decide), fun _ => m_in0 (n := 7) rfl (by omega) (fun h => ⟨fun _ => h0 ?_, fun c => absurd rfl c⟩) (fun n hn en => ⟨fun c => absurd c (by decide), fun _ => h1 L n hL hn eL en⟩)⟩)
  · rintro ⟨L, n, hL, hn, rfl, rfl⟩
    rcases h with h | h
    · exact nI_pos (by omega) h
    · rw [nI_leI (by omega) (by omega)] at h; omega
  · rintro ⟨L', n, hL, hn, -, rfl⟩
    rcases h with h | h
    · exact nI_pos (by omega) h
    · rw [nI_leI (by omega) (by omega)] at h; omega
theorem x_isLoader {f : ll_S} {a : Int32} {K : Int32 → ll_S → Prop} (h0 : (a < 0 ∨ nI 5 ≤ a) → K 0 f) (h1 : ∀ j, j < 5 → a = nI j → K 1 f) : G_Lb_isLoader f a K := by
  unfold G_Lb_isLoader
  rcases ll_rng a 5 (by omega) with h | ⟨j, hj, rfl⟩
  · exact ⟨fun _ => h0 h, fun c1 => ⟨fun _ => h0 h, fun c2 => absurd (h.resolve_left c1) c2⟩⟩
  · exact ⟨fun c => absurd c (nI_pos (by omega)), fun _ => ⟨fun c => absurd c (nI_ge (a := j) (b := 5) (by omega) (by omega)), fun _ => h1 j hj rfl⟩⟩
theorem x_isName {f : ll_S} {a : Int32} {K : Int32 → ll_S → Prop} (h0 : (a < 0 ∨ nI 8 ≤ a) → K 0 f) (h1 : ∀ j, j < 8 → a = nI j → K 1 f) : G_Lb_isName f a K := by
  unfold G_Lb_isName
  rcases ll_rng a 8 (by omega) with h | ⟨j, hj, rfl⟩
  · exact ⟨fun _ => h0 h, fun c1 => ⟨fun _ => h0 h, fun c2 => absurd (h.resolve_left c1) c2⟩⟩
  · exact ⟨fun c => absurd c (nI_pos (by omega)), fun _ => ⟨fun c => absurd c (nI_ge (a := j) (b := 8) (by omega) (by omega)), fun _ => h1 j hj rfl⟩⟩
theorem ll_out {n : Nat} {a : Int32} (hn : n < 2147483648) (h : a < 0 ∨ nI n ≤ a) : ∀ j, j < n → a ≠ nI j := by
  rintro j hj rfl
  rcases h with h | h
  · exact nI_pos (by omega) h
  · rw [nI_leI (by omega) (by omega)] at h; omega
theorem x_inRange {f : ll_S} {a b : Int32} {K : Int32 → ll_S → Prop} (h0 : (¬ ∃ L n, L < 5 ∧ n < 8 ∧ a = nI L ∧ b = nI n) → K 0 f) (h1 : ∀ L n, L < 5 → n < 8 → a = nI L → b = nI n → K 1 f) : G_Lb_inRange f a b K := by
  unfold G_Lb_inRange
  refine x_isLoader (fun h => ⟨fun _ => h0 ?_, fun c => absurd rfl c⟩) (fun L hL eL => ⟨fun c => absurd c (by decide), fun _ => x_isName (fun h => ⟨fun _ => h0 ?_, fun c => absurd rfl c⟩) (fun n hn en => ⟨fun c => absurd c (by decide), fun _ => h1 L n hL hn eL en⟩)⟩)
  · rintro ⟨L, n, hL, hn, e, -⟩; exact ll_out (by omega) h L hL e
  · rintro ⟨L', n, hL, hn, -, e⟩; exact ll_out (by omega) h n hn e
/-! leaves of the class -/
theorem x_cell {f : ll_S} {K : Int32 → ll_S → Prop} (L n : Nat) : G_Lb_cell f (nI L) (nI n) K ↔ K (nI (L * 8 + n)) f := by unfold G_Lb_cell; rw [ll_c8]
theorem x_recordOf {f : ll_S} {K : Int32 → ll_S → Prop} {L n : Nat} (hL : L < 5) (hn : n < 8) : G_Lb_recordOf f (nI L) (nI n) K ↔ K (f 5 (L * 8 + n)) f := by
  simp only [G_Lb_recordOf, x_cell]
  exact ll_idx (P := fun c => K (f 5 c) f) (by omega) (by omega)
theorem x_fileMarks {f : ll_S} {K : Int32 → ll_S → Prop} {L n : Nat} (hL : L < 5) (hn : n < 8) : G_Lb_fileMarks f (nI L) (nI n) K ↔ K (f 2 (L * 8 + n)) f := by
  simp only [G_Lb_fileMarks, x_cell]
  exact ll_idx (P := fun c => K (f 2 c) f) (by omega) (by omega)
theorem x_scriptWay {f : ll_S} {K : Int32 → ll_S → Prop} {L n : Nat} (hL : L < 5) (hn : n < 8) : G_Lb_scriptWay f (nI L) (nI n) K ↔ K (f 3 (L * 8 + n)) f := by
  simp only [G_Lb_scriptWay, x_cell]
  exact ll_idx (P := fun c => K (f 3 c) f) (by omega) (by omega)
theorem x_scriptNumber {f : ll_S} {K : Int32 → ll_S → Prop} {L n : Nat} (hL : L < 5) (hn : n < 8) : G_Lb_scriptNumber f (nI L) (nI n) K ↔ K (f 4 (L * 8 + n)) f := by
  simp only [G_Lb_scriptNumber, x_cell]
  exact ll_idx (P := fun c => K (f 4 c) f) (by omega) (by omega)
theorem x_nameOf {f : ll_S} {K : Int32 → ll_S → Prop} {j : Nat} (hj : j < 31) : G_Lc_nameOf f (nI j) K ↔ K (f 8 j) f := by
  simp only [G_Lc_nameOf]
  exact ll_idx (P := fun c => K (f 8 c) f) (by omega) (by omega)
theorem x_loaderOf {f : ll_S} {K : Int32 → ll_S → Prop} {j : Nat} (hj : j < 31) : G_Lc_loaderOf f (nI j) K ↔ K (f 9 j) f := by
  simp only [G_Lc_loaderOf]
  exact ll_idx (P := fun c => K (f 9 c) f) (by omega) (by omega)
theorem x_superclassOf {f : ll_S} {K : Int32 → ll_S → Prop} {j : Nat} (hj : j < 31) : G_Lc_superclassOf f (nI j) K ↔ K (f 10 j) f := by
  simp only [G_Lc_superclassOf]
  exact ll_idx (P := fun c => K (f 10 c) f) (by omega) (by omega)
theorem x_interfaceOf {f : ll_S} {K : Int32 → ll_S → Prop} {j : Nat} (hj : j < 31) : G_Lc_interfaceOf f (nI j) K ↔ K (f 11 j) f := by
  simp only [G_Lc_interfaceOf]
  exact ll_idx (P := fun c => K (f 11 c) f) (by omega) (by omega)
theorem x_marksOf {f : ll_S} {K : Int32 → ll_S → Prop} {j : Nat} (hj : j < 31) : G_Lc_marksOf f (nI j) K ↔ K (f 12 j) f := by
  simp only [G_Lc_marksOf]
  exact ll_idx (P := fun c => K (f 12 c) f) (by omega) (by omega)
theorem x_referredName {f : ll_S} {K : Int32 → ll_S → Prop} {j r : Nat} (hj : j < 31) (hr : r < 4) : G_Lc_referredName f (nI j) (nI r) K ↔ K (f 13 (j * 4 + r)) f := by
  simp only [G_Lc_referredName, G_Lc_place, ll_c4]
  exact ll_idx (P := fun c => K (f 13 c) f) (by omega) (by omega)
theorem x_keptFor {f : ll_S} {K : Int32 → ll_S → Prop} {j r : Nat} (hj : j < 31) (hr : r < 4) : G_Lc_keptFor f (nI j) (nI r) K ↔ K (f 14 (j * 4 + r)) f := by
  simp only [G_Lc_keptFor, G_Lc_place, ll_c4]
  exact ll_idx (P := fun c => K (f 14 c) f) (by omega) (by omega)
theorem x_keptCause {f : ll_S} {K : Int32 → ll_S → Prop} {j r : Nat} (hj : j < 31) (hr : r < 4) : G_Lc_keptCause f (nI j) (nI r) K ↔ K (f 15 (j * 4 + r)) f := by
  simp only [G_Lc_keptCause, G_Lc_place, ll_c4]
  exact ll_idx (P := fun c => K (f 15 c) f) (by omega) (by omega)
theorem x_hasFile {f : ll_S} {K : Int32 → ll_S → Prop} {L n : Nat} (hL : L < 5) (hn : n < 8) : G_Lb_hasFile f (nI L) (nI n) K ↔ ((f 1 (L * 8 + n) = -1 → K 0 f) ∧ (¬ f 1 (L * 8 + n) = -1 → K 1 f)) := by
  simp only [G_Lb_hasFile, x_cell]
  exact ll_idx (P := fun c => (f 1 c = (-1 : Int32) → K 0 f) ∧ (¬ f 1 c = (-1 : Int32) → K 1 f)) (by omega) (by omega)
theorem x_isUnderWay {f : ll_S} {K : Int32 → ll_S → Prop} {L n : Nat} (hL : L < 5) (hn : n < 8) (hb : f 6 (L * 8 + n) = 0 ∨ f 6 (L * 8 + n) = 1) : G_Lb_isUnderWay f (nI L) (nI n) K ↔ K (f 6 (L * 8 + n)) f := by
  simp only [G_Lb_isUnderWay, x_cell]
  refine (ll_idx (P := fun c => ll_b01 (f 6 c) ∧ K (f 6 c) f) (by omega) (by omega)).trans ⟨fun h => h.2, fun h => ⟨hb, h⟩⟩
theorem ll_nar1 : vp_nar .boolean 1 = 1 := by decide
theorem ll_nar0 : vp_nar .boolean 0 = 0 := by decide
theorem x_setUnderWay1 {f : ll_S} {K : ll_S → Prop} {L n : Nat} (hL : L < 5) (hn : n < 8) : G_Lb_setUnderWay f (nI L) (nI n) 1 K ↔ K (ll_w f 6 (L * 8 + n) 1) := by
  simp only [G_Lb_setUnderWay, x_cell, ll_nar1, forall_eq]
  exact ll_idx (P := fun c => K (ll_w f 6 c 1)) (by omega) (by omega)
theorem x_setUnderWay0 {f : ll_S} {K : ll_S → Prop} {L n : Nat} (hL : L < 5) (hn : n < 8) : G_Lb_setUnderWay f (nI L) (nI n) 0 K ↔ K (ll_w f 6 (L * 8 + n) 0) := by
  simp only [G_Lb_setUnderWay, x_cell, ll_nar0, forall_eq]
  exact ll_idx (P := fun c => K (ll_w f 6 c 0)) (by omega) (by omega)
theorem x_putRecord {f : ll_S} {K : ll_S → Prop} {L n : Nat} {v : Int32} (hL : L < 5) (hn : n < 8) : G_Lb_putRecord f (nI L) (nI n) v K ↔ K (ll_w f 5 (L * 8 + n) v) := by
  simp only [G_Lb_putRecord, x_cell, forall_eq]
  exact ll_idx (P := fun c => K (ll_w f 5 c v)) (by omega) (by omega)
theorem x_failBecause {f : ll_S} {K : Int32 → ll_S → Prop} {a b : Int32} : G_La_failBecause f a b K ↔ K a (ll_w f 18 0 b) := by simp only [G_La_failBecause, forall_eq]
theorem x_fail {f : ll_S} {K : Int32 → ll_S → Prop} {a : Int32} : G_La_fail f a K ↔ K a (ll_w f 18 0 0) := by simp only [G_La_fail, x_failBecause]
theorem ll_rem9 {v : Nat} (h : v ≤ 728) : nI v - nI v / 9 * 9 = nI (v % 9) := by rw [show (9 : Int32) = nI 9 from rfl, pk_rem (by omega) (by omega) (by omega)]
theorem ll_div9 {v : Nat} (h : v ≤ 728) : nI v / 9 = nI (v / 9) := by rw [show (9 : Int32) = nI 9 from rfl, pk_div (by omega) (by omega) (by omega)]
theorem ll_div81 {v : Nat} (h : v ≤ 728) : nI v / 81 = nI (v / 81) := by rw [show (81 : Int32) = nI 81 from rfl, pk_div (by omega) (by omega) (by omega)]
theorem ll_dr9 {v : Nat} (h : v ≤ 728) : nI v / 9 - nI v / 9 / 9 * 9 = nI (v / 9 % 9) := by rw [ll_div9 h, ll_rem9 (by omega)]
theorem x_fileSays {f : ll_S} {K : Int32 → ll_S → Prop} {L n v : Nat} (hL : L < 5) (hn : n < 8) (hv : v ≤ 728) (e : f 1 (L * 8 + n) = nI v) : G_Lb_fileSays f (nI L) (nI n) K ↔ K (nI (v % 9)) f := by
  simp only [G_Lb_fileSays, x_cell]
  refine (ll_idx (P := fun c => K (f 1 c - f 1 c / 9 * 9) f) (by omega) (by omega)).trans ?_
  rw [e, ll_rem9 hv]
theorem x_fileSuperclass {f : ll_S} {K : Int32 → ll_S → Prop} {L n v : Nat} (hL : L < 5) (hn : n < 8) (hv : v ≤ 728) (e : f 1 (L * 8 + n) = nI v) : G_Lb_fileSuperclass f (nI L) (nI n) K ↔ K (nI (v / 9 % 9)) f := by
  simp only [G_Lb_fileSuperclass, x_cell]
  refine (ll_idx (P := fun c => K (f 1 c / 9 - f 1 c / 9 / 9 * 9) f) (by omega) (by omega)).trans ?_
  rw [e, ll_dr9 hv]
theorem x_fileInterface {f : ll_S} {K : Int32 → ll_S → Prop} {L n v : Nat} (hL : L < 5) (hn : n < 8) (hv : v ≤ 728) (e : f 1 (L * 8 + n) = nI v) : G_Lb_fileInterface f (nI L) (nI n) K ↔ K (nI (v / 81)) f := by
  simp only [G_Lb_fileInterface, x_cell]
  refine (ll_idx (P := fun c => K (f 1 c / 81) f) (by omega) (by omega)).trans ?_
  rw [e, ll_div81 hv]
theorem x_holds {f : ll_S} {K : Int32 → ll_S → Prop} {s : Int32} {l : Nat} (hl : l < 32) : G_Lb_holds f s (nI l) K ↔ ((bt s l = false → K 0 f) ∧ (¬ bt s l = false → K 1 f)) := by
  simp only [G_Lb_holds, ll_bit hl]
/-- 'has' and 'in(c, 1, classes)' -/
theorem x_has {f : ll_S} {a : Int32} {d : Nat} {K : Int32 → ll_S → Prop} (hd : d ≤ 30) (e : f 16 0 = nI d) (h0 : (¬ ∃ j, 1 ≤ j ∧ j ≤ d ∧ a = nI j) → K 0 f) (h1 : ∀ j, 1 ≤ j → j ≤ d → a = nI j → K 1 f) : G_Lc_has f a K := by
  unfold G_Lc_has
  rw [e]
  refine ⟨fun c => h0 ?_, fun c1 => ⟨fun c => h0 ?_, fun c2 => ?_⟩⟩
  · rintro ⟨j, hj, hd2, rfl⟩
    rw [show (1 : Int32) = nI 1 from rfl, nI_ltI (by omega) (by omega)] at c; omega
  · rintro ⟨j, hj, hd2, rfl⟩
    rw [nI_ltI (by omega) (by omega)] at c; omega
  · obtain ⟨j, hj, rfl⟩ := nI_of2 (x := a) (M := nI d) (n := d) (nI_toInt (by omega)) (fun q => c1 (by rw [Int32.lt_iff_toInt_lt] at q ⊢; rw [show (1 : Int32).toInt = 1 from rfl]; rw [Int32.toInt_zero] at q; omega)) (by rw [Int32.le_iff_toInt_le]; rw [Int32.lt_iff_toInt_lt] at c2; omega)
    rw [show (1 : Int32) = nI 1 from rfl, nI_ltI (by omega) (by omega)] at c1
    exact h1 j (by omega) hj rfl
theorem m_in1 {g : ll_S} {a : Int32} {d : Nat} {K : Int32 → ll_S → Prop} (hd : d ≤ 30) (h0 : (¬ ∃ j, 1 ≤ j ∧ j ≤ d ∧ a = nI j) → K 0 g) (h1 : ∀ j, 1 ≤ j → j ≤ d → a = nI j → K 1 g) : G_Lm_in g a 1 (nI d) K := by
  unfold G_Lm_in
  refine ⟨fun c => h0 ?_, fun c1 => ⟨fun c => h0 ?_, fun c2 => ?_⟩⟩
  · rintro ⟨j, hj, hd2, rfl⟩
    rw [show (1 : Int32) = nI 1 from rfl, nI_ltI (by omega) (by omega)] at c; omega
  · rintro ⟨j, hj, hd2, rfl⟩
    rw [nI_ltI (by omega) (by omega)] at c; omega
  · obtain ⟨j, hj, rfl⟩ := nI_of2 (x := a) (M := nI d) (n := d) (nI_toInt (by omega)) (fun q => c1 (by rw [Int32.lt_iff_toInt_lt] at q ⊢; rw [show (1 : Int32).toInt = 1 from rfl]; rw [Int32.toInt_zero] at q; omega)) (by rw [Int32.le_iff_toInt_le]; rw [Int32.lt_iff_toInt_lt] at c2; omega)
    rw [show (1 : Int32) = nI 1 from rfl, nI_ltI (by omega) (by omega)] at c1
    exact h1 j (by omega) hj rfl
