/-! the calls: an image of the house, and back to it -/
section HSQ
theorem hs_HT.cong {n : Int32} {s s' r r' : Nat → Int32} {q : Nat} (h : hs_HT n s r q) (hs : ∀ j, j < n.toNatClampNeg → s' j = s j) (hr : ∀ j, j ≤ 120 → r' (q + j) = r (q + j)) : hs_HT n s' r' q := by
  obtain ⟨k, h1, h2, h3, h4, D, d0, h5⟩ := h
  have hk : n.toNatClampNeg = k := by rw [h2]; exact nI_clamp (by omega)
  rw [hk] at hs
  refine ⟨k, h1, h2, ?_, fun j hj => ?_, D, d0, fun j hj => by rw [hs j hj]; exact h5 j hj⟩
  · have := hr 0 (by omega)
    rw [Nat.add_zero] at this
    rw [this, h3]
  · have e1 := hr (1 + j) (by omega)
    have e2 := hr (61 + j) (by omega)
    rw [← Nat.add_assoc] at e1 e2
    rw [e1, e2, hs j hj]
    exact h4 j hj
/-- one house like another -/
def hs_Lk (h h' : Nat → Nat → Int32) : Prop := (∀ k j, hs_V k j → h' k j = h k j) ∧ (h' 11 1 = h 11 1 ∧ ∀ j, j < (h 11 1).toNatClampNeg → h' 12 j = h 12 j) ∧ (h' 14 1 = h 14 1 ∧ ∀ j, j < (h 14 1).toNatClampNeg → h' 15 j = h 15 j)
theorem hs_HH.cong {h h' : Nat → Nat → Int32} {r r' : Nat → Int32} (H : hs_HH h r) (hh : hs_Lk h h') (hr : ∀ j, j < 383 → r' j = r j) : hs_HH h' r' := by
  obtain ⟨h1, h2, h3⟩ := H
  obtain ⟨g1, ⟨g2, g3⟩, g4, g5⟩ := hh
  refine ⟨fun k j hv => by rw [hr _ (by have := hs_ps_lt hv; omega), h1 k j hv, g1 k j hv], ?_, ?_⟩
  · rw [g2]; exact h2.cong g3 (fun j hj => hr _ (by omega))
  · rw [g4]; exact h3.cong g5 (fun j hj => hr _ (by omega))
theorem hs_HI.cong {h h' : Nat → Nat → Int32} (H : hs_HI h) (hh : hs_Lk h h') : hs_HI h' := by
  obtain ⟨a1, a2⟩ := H
  have g := hh.1
  refine ⟨fun k j hv => by rw [g k j hv.1]; exact a1 k j hv, fun a ha hx => ?_⟩
  rw [g 6 a (by unfold hs_V; omega), g 0 2 (by unfold hs_V; omega)]
  rw [g 0 6 (by unfold hs_V; omega)] at hx
  exact a2 a ha hx
theorem hs_cpy {f g : Nat → Int32} {n j : Nat} (h : j < n) : va_cpy f g 0 0 n j = f j := by
  unfold va_cpy
  rw [if_pos (by omega)]
  congr 1
  omega
theorem hs_400 : 400 ≤ nb_F := by decide
theorem hs_gi {M : nb_M} {c j k : Nat} {v : Int32} (h : k ≠ c) : (nb_i M c j v).1 k = M.1 k := by simp only [nb_i, nb_r, if_neg h]
theorem hs_gr {M : nb_M} {c k : Nat} {f : Nat → Int32} (h : k ≠ c) : (nb_r M c f).1 k = M.1 k := by simp only [nb_r, if_neg h]
theorem hs_n0 : (0 : Int32).toNatClampNeg = 0 := by decide
theorem hs_n5 : (5 : Int32).toNatClampNeg = 5 := by decide
theorem hs_n9 : (9 : Int32).toNatClampNeg = 9 := by decide
theorem hs_n60 : (60 : Int32).toNatClampNeg = 60 := by decide
theorem hs_n24 : (24 : Int32).toNatClampNeg = 24 := by decide
theorem hs_ld29 (M : nb_M) {k : Nat} (hk : k ≤ 60) : f_X3_hold_29_13 M (nI k) = some (nb_i (nb_r M 30 (va_cpy (M.1 13) (M.1 30) 0 0 k)) 29 1 (nI k)) := by
  unfold f_X3_hold_29_13
  simp only [nb_n, hs_n0]
  rw [nI_clamp (show k < 2 ^ 31 by omega), if_neg]
  have := nI_pos (n := k) (by omega)
  rintro (w | w | w | w | w)
  · exact absurd w (by decide)
  · exact absurd w (by decide)
  · exact this w
  · omega
  · omega
theorem hs_ld32 (M : nb_M) {k : Nat} (hk : k ≤ 60) : f_X3_hold_32_16 M (nI k) = some (nb_i (nb_r M 33 (va_cpy (M.1 16) (M.1 33) 0 0 k)) 32 1 (nI k)) := by
  unfold f_X3_hold_32_16
  simp only [nb_n, hs_n0]
  rw [nI_clamp (show k < 2 ^ 31 by omega), if_neg]
  have := nI_pos (n := k) (by omega)
  rintro (w | w | w | w | w)
  · exact absurd w (by decide)
  · exact absurd w (by decide)
  · exact this w
  · omega
  · omega
theorem hs_cf18 (M : nb_M) {k1 k2 : Nat} (h1 : k1 ≤ 60) (h2 : k2 ≤ 60) (e1 : M.1 12 1 = nI k1) (e2 : M.1 15 1 = nI k2) : ∃ M', f_X0_copyFrom_18_1 M = some M' ∧ (∀ k, (k < 18 ∨ 34 < k) → M'.1 k = M.1 k) ∧ hs_Lk (hs_ho 1 M) (hs_ho 18 M') := by
  have hF : nb_F = 997 + 1 + 1 + 1 := rfl
  have x1 : ∀ A : nb_M, A.1 12 = M.1 12 → A.1 12 1 = nI k1 := fun A h => by rw [h]; exact e1
  have x2 : ∀ A : nb_M, A.1 15 = M.1 15 → A.1 15 1 = nI k2 := fun A h => by rw [h]; exact e2
  have c1 : (nI k1).toNatClampNeg = k1 := nI_clamp (by omega)
  have c2 : (nI k2).toNatClampNeg = k2 := nI_clamp (by omega)
  unfold f_X0_copyFrom_18_1
  simp only [nb_n, hs_n0, hs_n5, hs_n9, hs_n60, hs_n24, hs_gi, hs_gr, ne_eq, Nat.reduceEqDiff, not_false_eq_true]
  rw [hF, f_X0_copyFrom_18_1_182, if_neg (show ¬ (2 : Int32) ≤ 0 from by decide), if_pos (rfl : (0 : Int32) = 0)]
  simp only [hs_gi, hs_gr, ne_eq, Nat.reduceEqDiff, not_false_eq_true, e1, hs_ld29 _ h1, nb_o]
  rw [f_X0_copyFrom_18_1_182, if_neg (show ¬ (2 : Int32) ≤ 0 + 1 from by decide), if_neg (show ¬ (0 : Int32) + 1 = 0 from by decide), if_pos (show (0 : Int32) + 1 = 1 from by decide)]
  simp only [hs_gi, hs_gr, ne_eq, Nat.reduceEqDiff, not_false_eq_true, e2, hs_ld32 _ h2, nb_o]
  rw [f_X0_copyFrom_18_1_182, if_pos (show (2 : Int32) ≤ 0 + 1 + 1 from by decide)]
  refine ⟨_, rfl, fun k hk => ?_, fun k j hv => ?_, ⟨?_, fun j hj => ?_⟩, ?_, fun j hj => ?_⟩
  · simp only [nb_i, nb_r]
    rw [if_neg (show ¬ k = 32 from by omega), if_neg (show ¬ k = 33 from by omega), if_neg (show ¬ k = 29 from by omega), if_neg (show ¬ k = 30 from by omega), if_neg (show ¬ k = 28 from by omega), if_neg (show ¬ k = 27 from by omega), if_neg (show ¬ k = 25 from by omega), if_neg (show ¬ k = 24 from by omega), if_neg (show ¬ k = 23 from by omega), if_neg (show ¬ k = 22 from by omega), if_neg (show ¬ k = 21 from by omega), if_neg (show ¬ k = 20 from by omega), if_neg (show ¬ k = 19 from by omega), if_neg (show ¬ k = 18 from by omega), if_neg (show ¬ k = 18 from by omega), if_neg (show ¬ k = 18 from by omega), if_neg (show ¬ k = 18 from by omega), if_neg (show ¬ k = 18 from by omega), if_neg (show ¬ k = 18 from by omega)]
  · unfold hs_V at hv
    rcases hv with ⟨rfl, hj⟩ | ⟨k1', k3, hj⟩ | ⟨k4, k7, hj⟩ | ⟨rfl, hj⟩ | ⟨rfl, hj⟩
    · rcases hj with rfl | rfl | rfl | rfl | rfl | rfl <;> rfl
    · have : k = 1 ∨ k = 2 ∨ k = 3 := by omega
      rcases this with rfl | rfl | rfl <;> exact hs_cpy hj
    · have : k = 4 ∨ k = 5 ∨ k = 6 ∨ k = 7 := by omega
      rcases this with rfl | rfl | rfl | rfl <;> exact hs_cpy hj
    · exact hs_cpy hj
    · exact hs_cpy hj
  · exact e1.symm
  · have hj' : j < k1 := by
      have e : hs_ho 1 M 11 1 = nI k1 := e1
      rw [e, c1] at hj; exact hj
    exact hs_cpy hj'
  · exact e2.symm
  · have hj' : j < k2 := by
      have e : hs_ho 1 M 14 1 = nI k2 := e2
      rw [e, c2] at hj; exact hj
    exact hs_cpy hj'
theorem hs_ld12 (M : nb_M) {k : Nat} (hk : k ≤ 60) : f_X3_hold_12_30 M (nI k) = some (nb_i (nb_r M 13 (va_cpy (M.1 30) (M.1 13) 0 0 k)) 12 1 (nI k)) := by
  unfold f_X3_hold_12_30
  simp only [nb_n, hs_n0]
  rw [nI_clamp (show k < 2 ^ 31 by omega), if_neg]
  have := nI_pos (n := k) (by omega)
  rintro (w | w | w | w | w)
  · exact absurd w (by decide)
  · exact absurd w (by decide)
  · exact this w
  · omega
  · omega
theorem hs_ld15 (M : nb_M) {k : Nat} (hk : k ≤ 60) : f_X3_hold_15_33 M (nI k) = some (nb_i (nb_r M 16 (va_cpy (M.1 33) (M.1 16) 0 0 k)) 15 1 (nI k)) := by
  unfold f_X3_hold_15_33
  simp only [nb_n, hs_n0]
  rw [nI_clamp (show k < 2 ^ 31 by omega), if_neg]
  have := nI_pos (n := k) (by omega)
  rintro (w | w | w | w | w)
  · exact absurd w (by decide)
  · exact absurd w (by decide)
  · exact this w
  · omega
  · omega
theorem hs_cf1 (M : nb_M) {k1 k2 : Nat} (h1 : k1 ≤ 60) (h2 : k2 ≤ 60) (e1 : M.1 29 1 = nI k1) (e2 : M.1 32 1 = nI k2) : ∃ M', f_X0_copyFrom_1_18 M = some M' ∧ (∀ k, (k < 1 ∨ 17 < k) → M'.1 k = M.1 k) ∧ hs_Lk (hs_ho 18 M) (hs_ho 1 M') := by
  have hF : nb_F = 997 + 1 + 1 + 1 := rfl
  have x1 : ∀ A : nb_M, A.1 29 = M.1 29 → A.1 29 1 = nI k1 := fun A h => by rw [h]; exact e1
  have x2 : ∀ A : nb_M, A.1 32 = M.1 32 → A.1 32 1 = nI k2 := fun A h => by rw [h]; exact e2
  have c1 : (nI k1).toNatClampNeg = k1 := nI_clamp (by omega)
  have c2 : (nI k2).toNatClampNeg = k2 := nI_clamp (by omega)
  unfold f_X0_copyFrom_1_18
  simp only [nb_n, hs_n0, hs_n5, hs_n9, hs_n60, hs_n24, hs_gi, hs_gr, ne_eq, Nat.reduceEqDiff, not_false_eq_true]
  rw [hF, f_X0_copyFrom_1_18_182, if_neg (show ¬ (2 : Int32) ≤ 0 from by decide), if_pos (rfl : (0 : Int32) = 0)]
  simp only [hs_gi, hs_gr, ne_eq, Nat.reduceEqDiff, not_false_eq_true, e1, hs_ld12 _ h1, nb_o]
  rw [f_X0_copyFrom_1_18_182, if_neg (show ¬ (2 : Int32) ≤ 0 + 1 from by decide), if_neg (show ¬ (0 : Int32) + 1 = 0 from by decide), if_pos (show (0 : Int32) + 1 = 1 from by decide)]
  simp only [hs_gi, hs_gr, ne_eq, Nat.reduceEqDiff, not_false_eq_true, e2, hs_ld15 _ h2, nb_o]
  rw [f_X0_copyFrom_1_18_182, if_pos (show (2 : Int32) ≤ 0 + 1 + 1 from by decide)]
  refine ⟨_, rfl, fun k hk => ?_, fun k j hv => ?_, ⟨?_, fun j hj => ?_⟩, ?_, fun j hj => ?_⟩
  · simp only [nb_i, nb_r]
    rw [if_neg (show ¬ k = 15 from by omega), if_neg (show ¬ k = 16 from by omega), if_neg (show ¬ k = 12 from by omega), if_neg (show ¬ k = 13 from by omega), if_neg (show ¬ k = 11 from by omega), if_neg (show ¬ k = 10 from by omega), if_neg (show ¬ k = 8 from by omega), if_neg (show ¬ k = 7 from by omega), if_neg (show ¬ k = 6 from by omega), if_neg (show ¬ k = 5 from by omega), if_neg (show ¬ k = 4 from by omega), if_neg (show ¬ k = 3 from by omega), if_neg (show ¬ k = 2 from by omega), if_neg (show ¬ k = 1 from by omega), if_neg (show ¬ k = 1 from by omega), if_neg (show ¬ k = 1 from by omega), if_neg (show ¬ k = 1 from by omega), if_neg (show ¬ k = 1 from by omega), if_neg (show ¬ k = 1 from by omega)]
  · unfold hs_V at hv
    rcases hv with ⟨rfl, hj⟩ | ⟨k1', k3, hj⟩ | ⟨k4, k7, hj⟩ | ⟨rfl, hj⟩ | ⟨rfl, hj⟩
    · rcases hj with rfl | rfl | rfl | rfl | rfl | rfl <;> rfl
    · have : k = 1 ∨ k = 2 ∨ k = 3 := by omega
      rcases this with rfl | rfl | rfl <;> exact hs_cpy hj
    · have : k = 4 ∨ k = 5 ∨ k = 6 ∨ k = 7 := by omega
      rcases this with rfl | rfl | rfl | rfl <;> exact hs_cpy hj
    · exact hs_cpy hj
    · exact hs_cpy hj
  · exact e1.symm
  · have hj' : j < k1 := by
      have e : hs_ho 18 M 11 1 = nI k1 := e1
      rw [e, c1] at hj; exact hj
    exact hs_cpy hj'
  · exact e2.symm
  · have hj' : j < k2 := by
      have e : hs_ho 18 M 14 1 = nI k2 := e2
      rw [e, c2] at hj; exact hj
    exact hs_cpy hj'
theorem hs_rf2 : ∀ (n i : Nat) (K : nb_M), i ≤ 383 → 383 - i < n → ∃ K', f_X7_copyAll_53_54_2 n K (nI i) = some K' ∧ (∀ c, c ≠ 2 → K'.1 c = K.1 c) ∧ (∀ j, i ≤ j → j < 383 → K'.1 2 j = K.1 1 j) ∧ (∀ j, j < i → K'.1 2 j = K.1 2 j) := by
  intro n
  induction n with
  | zero => intro i K _ h; omega
  | succ n ih =>
    intro i K hi hn
    rw [f_X7_copyAll_53_54_2]
    by_cases hl : i < 383
    · rw [if_neg (show ¬ (383 : Int32) ≤ nI i from nI_ge (b := 383) hl (by decide)), if_neg (nI_in hl (by decide)), nI_clamp (show i < 2 ^ 31 by omega)]
      simp only [nb_n]
      rw [nI_1]
      obtain ⟨K', g1, g2, g3, g4⟩ := ih (i + 1) (nb_i K 2 i (K.1 1 i)) (by omega) (by omega)
      refine ⟨K', g1, fun c hc => ?_, fun j h1 h2 => ?_, fun j h1 => ?_⟩
      · rw [g2 c hc]; simp only [nb_i, nb_r, if_neg hc]
      · by_cases e : j = i
        · subst e
          rw [g4 j (by omega)]
          show upd (K.1 2) j (K.1 1 j) j = _
          rw [hs_upd_s]
        · rw [g3 j (by omega) h2]; rfl
      · rw [g4 j (by omega)]
        show upd (K.1 2) i (K.1 1 i) j = _
        rw [hs_upd_n (by omega)]
    · have : i = 383 := by omega
      subst this
      rw [if_pos (show (383 : Int32) ≤ nI 383 from by decide)]
      exact ⟨K, rfl, fun _ _ => rfl, fun j h1 h2 => by omega, fun _ _ => rfl⟩
theorem hs_rf1 : ∀ (n i : Nat) (K : nb_M), i ≤ 383 → 383 - i < n → ∃ K', f_X7_copyAll_54_53_2 n K (nI i) = some K' ∧ (∀ c, c ≠ 1 → K'.1 c = K.1 c) ∧ (∀ j, i ≤ j → j < 383 → K'.1 1 j = K.1 2 j) ∧ (∀ j, j < i → K'.1 1 j = K.1 1 j) := by
  intro n
  induction n with
  | zero => intro i K _ h; omega
  | succ n ih =>
    intro i K hi hn
    rw [f_X7_copyAll_54_53_2]
    by_cases hl : i < 383
    · rw [if_neg (show ¬ (383 : Int32) ≤ nI i from nI_ge (b := 383) hl (by decide)), if_neg (nI_in hl (by decide)), nI_clamp (show i < 2 ^ 31 by omega)]
      simp only [nb_n]
      rw [nI_1]
      obtain ⟨K', g1, g2, g3, g4⟩ := ih (i + 1) (nb_i K 1 i (K.1 2 i)) (by omega) (by omega)
      refine ⟨K', g1, fun c hc => ?_, fun j h1 h2 => ?_, fun j h1 => ?_⟩
      · rw [g2 c hc]; simp only [nb_i, nb_r, if_neg hc]
      · by_cases e : j = i
        · subst e
          rw [g4 j (by omega)]
          show upd (K.1 1) j (K.1 2 j) j = _
          rw [hs_upd_s]
        · rw [g3 j (by omega) h2]; rfl
      · rw [g4 j (by omega)]
        show upd (K.1 1) i (K.1 2 i) j = _
        rw [hs_upd_n (by omega)]
    · have : i = 383 := by omega
      subst this
      rw [if_pos (show (383 : Int32) ≤ nI 383 from by decide)]
      exact ⟨K, rfl, fun _ _ => rfl, fun j h1 h2 => by omega, fun _ _ => rfl⟩
variable {M N : nb_M}
theorem hs_Rel.kept {M' N' : nb_M} (R : hs_Rel M N) (hc : ∀ k, k ≠ 0 → (k < 18 ∨ 34 < k) → M'.1 k = M.1 k) (hd : ∀ k, k ≠ 0 → k ≠ 2 → N'.1 k = N.1 k) (h0 : N'.1 0 2 = M'.1 0 7) (h19 : N'.1 0 19 = N.1 0 19) (h1 : hs_HH (hs_ho 18 M') (N'.1 2)) (h2 : hs_HI (hs_ho 18 M')) : hs_Rel M' N' := by
  obtain ⟨a1, a2, _, _, a5, a6, s0, s1, s2, s3⟩ := R
  have d4 : N'.1 4 = N.1 4 := hd 4 (by omega) (by omega)
  have d5 : N'.1 5 = N.1 5 := hd 5 (by omega) (by omega)
  have d6 : N'.1 6 = N.1 6 := hd 6 (by omega) (by omega)
  have ho : hs_ho 1 M' = hs_ho 1 M := by
    funext k
    by_cases hx : k = 13 ∨ k = 16 ∨ 16 < k
    · simp [hs_ho, hx]
    · simp only [hs_ho, if_neg hx]
      exact hc (1 + k) (by omega) (by omega)
  refine ⟨by rw [ho, hd 1 (by omega) (by omega)]; exact a1, by rw [ho]; exact a2, h0, Or.inr ⟨h1, h2⟩, by rw [hd 3 (by omega) (by omega), hc 51 (by omega) (by omega)]; exact a5, ?_, s0.keep (hc 43 (by omega) (by omega)) (hc 44 (by omega) (by omega)) d4 d5 d6, s1.keep (hc 45 (by omega) (by omega)) (hc 46 (by omega) (by omega)) d4 d5 d6, s2.keep (hc 47 (by omega) (by omega)) (hc 48 (by omega) (by omega)) d4 d5 d6, s3.keep (hc 49 (by omega) (by omega)) (hc 50 (by omega) (by omega)) d4 d5 d6⟩
  unfold hs_TR
  rw [hc 40 (by omega) (by omega), hc 41 (by omega) (by omega), h19, hd 12 (by omega) (by omega)]
  exact a6
theorem s_image (R : hs_Rel M N) : hs_S (f_X6_image M) (f_X7_image N) := by
  unfold f_X6_image f_X7_image f_X7_copyAll_53_54
  obtain ⟨k1, h1, e1, -⟩ := R.1.2.1
  obtain ⟨k2, h2, e2, -⟩ := R.1.2.2
  obtain ⟨M', g1, g2, g3⟩ := hs_cf18 M h1 h2 e1 e2
  obtain ⟨N', k3, k4, k5, -⟩ := hs_rf2 nb_F 0 N (by omega) (by have := hs_400; omega)
  have k3' : f_X7_copyAll_53_54_2 nb_F N 0 = some N' := k3
  rw [g1, k3']
  simp only [nb_o, nb_n]
  have e3 : N'.1 0 2 = M'.1 0 7 := by rw [k4 0 (by omega), g2 0 (by omega)]; exact R.2.2.1
  have e4 : (nb_i N' 0 2 (N'.1 0 2 + 1)).1 0 2 = N'.1 0 2 + 1 := rfl
  have e5 : (nb_i M' 0 7 (M'.1 0 7 + 1)).1 0 7 = M'.1 0 7 + 1 := rfl
  rw [e4, e5, e3]
  refine ⟨_, _, _, rfl, rfl, ?_⟩
  have hl : hs_Lk (hs_ho 1 M) (hs_ho 18 (nb_i M' 0 7 (M'.1 0 7 + 1))) := by rw [hs_hoO (by omega)]; exact g3
  refine R.kept (fun k h3 h4 => ?_) (fun k h3 h4 => ?_) rfl ?_ (R.1.cong hl (fun j hj => k5 j (by omega) hj)) (R.2.1.cong hl)
  · simp only [nb_i, nb_r, if_neg h3]; exact g2 k h4
  · simp only [nb_i, nb_r, if_neg h3]; exact k4 k h4
  · show upd (N'.1 0) 2 (M'.1 0 7 + 1) 19 = _
    rw [hs_upd_n (by omega), k4 0 (by omega)]
theorem s_restore (R : hs_Rel M N) : hs_S (f_X6_restore M) (f_X7_restore N) := by
  unfold f_X6_restore f_X7_restore f_X7_copyAll_54_53
  rw [R.2.2.1]
  by_cases z : M.1 0 7 = 0
  · rw [if_pos z, if_pos z]; exact hs_e2 R
  · rw [if_neg z, if_neg z]
    obtain ⟨H, I⟩ := R.2.2.2.1.resolve_left z
    obtain ⟨k1, h1, e1, -⟩ := H.2.1
    obtain ⟨k2, h2, e2, -⟩ := H.2.2
    obtain ⟨M', g1, g2, g3⟩ := hs_cf1 M h1 h2 e1 e2
    obtain ⟨N', k3, k4, k5, -⟩ := hs_rf1 nb_F 0 N (by omega) (by have := hs_400; omega)
    have k3' : f_X7_copyAll_54_53_2 nb_F N 0 = some N' := k3
    rw [g1, k3']
    simp only [nb_o]
    have hh : hs_HH (hs_ho 1 M') (N'.1 1) := H.cong g3 (fun j hj => k5 j (by omega) hj)
    have rel : hs_Rel M' N' := R.house (fun k hk => g2 k (by omega)) (fun k h3 _ _ => k4 k h3) hh (I.cong g3)
    rw [hs_c0, hs_r0 hh]
    exact ⟨_, _, _, rfl, rfl, rel⟩
end HSQ
