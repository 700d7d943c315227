/-! shards, slips, what counts, who is through -/
theorem hs_F : 200 ≤ nb_F := by decide
def hs_shl (h : Nat → Nat → Int32) : Nat → Int32
  | 0 => 0
  | a + 1 => hs_shl h a + (if h 7 a = 1 then 1 else 0)
def hs_sh (h : Nat → Nat → Int32) : Int32 := hs_shl h (h 0 6).toNatClampNeg
theorem hs_nq {h : Nat → Nat → Int32} (H : hs_HI h) : ∃ q, q ≤ 9 ∧ h 0 6 = nI q := H.1 0 6 ⟨by unfold hs_V; omega, by omega, by omega⟩
theorem hs_np {h : Nat → Nat → Int32} (H : hs_HI h) : ∃ q, q ≤ 5 ∧ h 0 2 = nI q := H.1 0 2 ⟨by unfold hs_V; omega, by omega, by omega⟩
theorem hs_cshl {M : nb_M} {q : Nat} (hq : q ≤ 9) (e6 : M.1 1 6 = nI q) : ∀ (n i : Nat), i ≤ q → q - i < n → f_X0_shards_4 n M (hs_shl (hs_ho 1 M) i) (nI i) = some (hs_shl (hs_ho 1 M) q) := by
  intro n
  induction n with
  | zero => intro i _ h; omega
  | succ n ih =>
    intro i hi hn
    rw [f_X0_shards_4, e6]
    by_cases hl : i < q
    · rw [if_neg (nI_ge hl (by omega)), if_neg (nI_in (by omega) (by decide)), nI_clamp (by omega)]
      have e8 : hs_ho 1 M 7 i = M.1 8 i := rfl
      by_cases e : M.1 8 i = 1
      · rw [if_pos e]
        have e9 : hs_shl (hs_ho 1 M) i + f_X6_bit 1 = hs_shl (hs_ho 1 M) (i + 1) := by
          simp [hs_shl, e8, e, f_X6_bit]
        show f_X0_shards_4 n M (hs_shl (hs_ho 1 M) i + f_X6_bit 1) (nI i + 1) = _
        rw [e9, nI_1]
        exact ih (i + 1) (by omega) (by omega)
      · rw [if_neg e]
        have e9 : hs_shl (hs_ho 1 M) i + f_X6_bit 0 = hs_shl (hs_ho 1 M) (i + 1) := by
          simp [hs_shl, e8, e, f_X6_bit]
        show f_X0_shards_4 n M (hs_shl (hs_ho 1 M) i + f_X6_bit 0) (nI i + 1) = _
        rw [e9, nI_1]
        exact ih (i + 1) (by omega) (by omega)
    · have : i = q := by omega
      subst this
      rw [if_pos (nI_le (Nat.le_refl _) (by omega))]
theorem hs_csh {M : nb_M} (H : hs_HI (hs_ho 1 M)) : f_X0_shards M = some (hs_sh (hs_ho 1 M)) := by
  obtain ⟨q, hq, e⟩ := hs_nq H
  have e6 : M.1 1 6 = nI q := e
  unfold f_X0_shards hs_sh
  rw [e, nI_clamp (by omega)]
  exact hs_cshl hq e6 nb_F 0 (by omega) (by have := hs_F; omega)
theorem hs_rshl {h : Nat → Nat → Int32} {N : nb_M} (H : hs_HH h (N.1 1)) {q : Nat} (hq : q ≤ 9) (e6 : h 0 6 = nI q) : ∀ (n i : Nat), i ≤ q → q - i < n → f_X7_shards_4 n N (hs_shl h i) (nI i) = some (hs_shl h q) := by
  intro n
  induction n with
  | zero => intro i _ h; omega
  | succ n ih =>
    intro i hi hn
    rw [f_X7_shards_4, hs_c2, hs_r2 H, e6]
    by_cases hl : i < q
    · rw [if_neg (nI_ge hl (by omega)), hs_of3 H (by omega)]
      simp only [nb_o, nb_n]
      by_cases e : h 7 i = 1
      · have e9 : hs_shl h i + 1 = hs_shl h (i + 1) := by simp [hs_shl, e]
        rw [if_pos e, e9, nI_1]
        exact ih (i + 1) (by omega) (by omega)
      · have e9 : hs_shl h i + 0 = hs_shl h (i + 1) := by simp [hs_shl, e]
        rw [if_neg e, e9, nI_1]
        exact ih (i + 1) (by omega) (by omega)
    · have : i = q := by omega
      subst this
      rw [if_pos (nI_le (Nat.le_refl _) (by omega))]
theorem hs_rsh {h : Nat → Nat → Int32} {N : nb_M} (H : hs_HH h (N.1 1)) (I : hs_HI h) : f_X7_shards N = some (hs_sh h) := by
  obtain ⟨q, hq, e⟩ := hs_nq I
  unfold f_X7_shards hs_sh
  rw [e, nI_clamp (by omega)]
  exact hs_rshl H hq e nb_F 0 (by omega) (by have := hs_F; omega)
def hs_sl (h : Nat → Nat → Int32) (a : Nat) (c : Int32) : Int32 :=
  if h 4 a = 1 then ((10 - c) + h 5 a) + 3 else if h 4 a = 2 then ((10 - c) + h 5 a) / 2 else if h 4 a = 3 then ((10 - c) + h 5 a) - h 5 a
  else if h 4 a = 4 then (((10 - c) + h 5 a) + 3) + (h 0 0 - h 0 0 / 3 * 3) else if h 4 a = 5 then ((10 - c) + h 5 a) / 2 + hs_sh h
  else if h 4 a = 6 then (if c ≤ 6 then (10 - c) + h 5 a else 0) else (10 - c) + h 5 a
theorem hs_csl {M : nb_M} (H : hs_HI (hs_ho 1 M)) {a : Nat} (ha : a < 9) (c : Int32) : f_X0_slipsBy M (nI a) c = some (hs_sl (hs_ho 1 M) a c) := by
  unfold f_X0_slipsBy hs_sl nb_n
  rw [if_neg (nI_in ha (by decide)), nI_clamp (by omega), hs_csh H]
  have e4 : hs_ho 1 M 4 a = M.1 5 a := rfl
  have e5 : hs_ho 1 M 5 a = M.1 6 a := rfl
  have e0 : hs_ho 1 M 0 0 = M.1 1 0 := rfl
  rw [e4, e5, e0]
  repeat' split
  all_goals rfl
theorem hs_rsl {h : Nat → Nat → Int32} {N : nb_M} (H : hs_HH h (N.1 1)) (I : hs_HI h) {a : Nat} (ha : a < 9) (c : Int32) : f_X7_slipsOf N (nI a) c = some (hs_sl h a c) := by
  unfold f_X7_slipsOf hs_sl
  rw [hs_of1 H ha, hs_of0 H ha, hs_rsh H I, hs_c0, hs_r0 H]
  simp only [nb_o, nb_n]
  repeat' split
  all_goals rfl
def hs_co (h : Nat → Nat → Int32) (a : Nat) (d : Int32) : Int32 :=
  if h 4 a = 2 then (if d - d / 2 * 2 = 0 then 1 else if h 5 a ≤ 4 then 0 else 1) else if h 4 a = 3 then (if 8 ≤ h 5 a then 0 else 1)
  else if h 4 a = 4 then (if hs_sh h ≤ 0 then 0 else 1) else if h 4 a = 5 then (if d - d / 2 * 2 = 0 then 1 else if h 5 a ≤ 4 then (if d ≤ 100 then 0 else 1) else 1)
  else if h 4 a = 6 then 0 else 1
theorem hs_co01 (h : Nat → Nat → Int32) (a : Nat) (d : Int32) : hs_co h a d = 0 ∨ hs_co h a d = 1 := by
  unfold hs_co
  repeat' split
  all_goals first | exact Or.inl rfl | exact Or.inr rfl
theorem hs_cco {M : nb_M} (H : hs_HI (hs_ho 1 M)) {a : Nat} (ha : a < 9) (d : Int32) : f_X0_countsOn M (nI a) d = some (hs_co (hs_ho 1 M) a d) := by
  unfold f_X0_countsOn f_X0_countsOn_16 hs_co
  have hb : ¬ (nI a < 0 ∨ 9 ≤ (nI a).toNatClampNeg) := nI_in ha (by decide)
  have hc : (nI a).toNatClampNeg = a := nI_clamp (by omega)
  simp only [if_neg hb]
  simp only [hc, hs_csh H]
  have e4 : hs_ho 1 M 4 a = M.1 5 a := rfl
  have e5 : hs_ho 1 M 5 a = M.1 6 a := rfl
  rw [e4, e5]
  simp only [nb_o]
  repeat' split
  all_goals first | rfl | contradiction
theorem hs_rco {h : Nat → Nat → Int32} {N : nb_M} (H : hs_HH h (N.1 1)) (I : hs_HI h) {a : Nat} (ha : a < 9) (d : Int32) : f_X7_doesCountOn N (nI a) d = some (hs_co h a d) := by
  unfold f_X7_doesCountOn hs_co
  rw [hs_of1 H ha, hs_of0 H ha, hs_rsh H I]
  simp only [nb_o]
  repeat' split
  all_goals first | rfl | contradiction | exact absurd ‹h 5 a ≤ 4› (Int32.not_le.mpr ‹4 < h 5 a›) | exact absurd (Int32.not_lt.mp ‹¬ 4 < h 5 a›) ‹¬ h 5 a ≤ 4›
theorem hs_rdc {h : Nat → Nat → Int32} {N : nb_M} (H : hs_HH h (N.1 1)) (I : hs_HI h) {a : Nat} (ha : a < 9) : f_X7_doesCount N (nI a) = some (hs_co h a (h 0 0)) := by
  unfold f_X7_doesCount
  rw [hs_c0, hs_r0 H, hs_rco H I ha]
  simp only [nb_o]
  rw [if_neg (fun w => w (hs_co01 h a (h 0 0)))]
/-- how many are due still -/
def hs_due (h : Nat → Nat → Int32) (i : Nat) : Int32 := if 0 < h 2 i - h 3 i then h 2 i - h 3 i else 0
def hs_th (h : Nat → Nat → Int32) (i : Nat) : Int32 := if h 3 i < h 2 i then 0 else 1
theorem hs_cdue {M : nb_M} {i : Nat} (hi : i < 5) : f_X0_toComeOf M (nI i) = some (hs_due (hs_ho 1 M) i) := by
  unfold f_X0_toComeOf hs_due
  rw [if_neg (nI_in hi (by decide)), nI_clamp (by omega)]
  rfl
theorem hs_rdue {h : Nat → Nat → Int32} {N : nb_M} (H : hs_HH h (N.1 1)) {i : Nat} (hi : i < 5) : f_X7_dueOf N (nI i) = some (hs_due h i) := by
  unfold f_X7_dueOf hs_due
  rw [hs_ab1 H hi, hs_ab2 H hi]
  simp only [nb_o, nb_n]
  by_cases e : 0 < h 2 i - h 3 i
  · rw [if_pos e, if_pos (Int32.le_of_lt e)]
  · rw [if_neg e]
    by_cases e2 : 0 ≤ h 2 i - h 3 i
    · rw [if_pos e2, Int32.le_antisymm (Int32.not_lt.mp e) e2]
    · rw [if_neg e2]
theorem hs_cth {M : nb_M} {i : Nat} (hi : i < 5) : f_X0_isThrough M (nI i) = some (hs_th (hs_ho 1 M) i) := by
  unfold f_X0_isThrough hs_th
  rw [if_neg (nI_in hi (by decide)), nI_clamp (by omega)]
  show (if M.1 4 i < M.1 3 i then some 0 else some 1) = some (if M.1 4 i < M.1 3 i then 0 else 1)
  split <;> rfl
theorem hs_rth {h : Nat → Nat → Int32} {N : nb_M} (H : hs_HH h (N.1 1)) {i : Nat} (hi : i < 5) : f_X7_isThrough N (nI i) = some (hs_th h i) := by
  unfold f_X7_isThrough hs_th
  rw [hs_ab1 H hi, hs_ab2 H hi]
  simp only [nb_o]
  split <;> rfl
/-! who there is -/
theorem hs_in (x : Int32) (a b : Int32) : f_X7_in x a b = if x < a ∨ b < x then 0 else 1 := by
  unfold f_X7_in
  by_cases h1 : x < a
  · simp [h1]
  · by_cases h2 : b < x <;> simp [h1, h2]
theorem hs_within (x b : Int32) : f_X6_within x b = if x < 0 ∨ b < x then 0 else 1 := by
  unfold f_X6_within
  by_cases h1 : x < 0
  · simp [h1]
  · by_cases h2 : b < x <;> simp [h1, h2]
/-- x is one of 0 .. n - 1 -/
theorem hs_isr (x : Int32) {n : Nat} (hn : n < 1000) : (f_X7_in x 0 (nI n - 1) = 1 ∧ ∃ k, k < n ∧ x = nI k) ∨ (f_X7_in x 0 (nI n - 1) = 0 ∧ (x < 0 ∨ nI n ≤ x)) := by
  rw [hs_in]
  rcases pk_ix x (n := n) (by omega) with h | h | ⟨j, hj, e⟩
  · right; exact ⟨if_pos (Or.inl h), Or.inl h⟩
  · right
    refine ⟨if_pos (Or.inr ?_), Or.inr h⟩
    have h1 := Int32.le_iff_toInt_le.mp h
    rw [nI_toInt (by omega)] at h1
    rw [Int32.lt_iff_toInt_lt]
    by_cases hz : n = 0
    · subst hz
      show (-1 : Int32).toInt < _
      have : (-1 : Int32).toInt = -1 := by decide
      omega
    · obtain ⟨m, rfl⟩ : ∃ m, n = m + 1 := ⟨n - 1, by omega⟩
      rw [nI_pred, nI_toInt (by omega)]
      omega
  · left
    refine ⟨?_, j, hj, e⟩
    subst e
    obtain ⟨m, rfl⟩ : ∃ m, n = m + 1 := ⟨n - 1, by omega⟩
    rw [nI_pred, if_neg]
    rintro (q | q)
    · exact nI_pos (by omega) q
    · exact absurd q (nI_nlt (by omega) (by omega))
theorem hs_isl (x : Int32) {n : Nat} (hn : n < 1000) {c : Int32} (hc : c = if x < 0 then 0 else if nI n ≤ x then 0 else 1) : (c = 1 ∧ ∃ k, k < n ∧ x = nI k) ∨ (c = 0 ∧ (x < 0 ∨ nI n ≤ x)) := by
  rcases pk_ix x (n := n) (by omega) with h | h | ⟨j, hj, e⟩
  · right; exact ⟨by rw [hc, if_pos h], Or.inl h⟩
  · right
    refine ⟨?_, Or.inr h⟩
    rw [hc]
    by_cases h1 : x < 0
    · rw [if_pos h1]
    · rw [if_neg h1, if_pos h]
  · left
    refine ⟨?_, j, hj, e⟩
    subst e
    rw [hc, if_neg (nI_pos (by omega)), if_neg (nI_ge hj (by omega))]
