/-! what is left, place by place -/
section HSZ2
set_option maxHeartbeats 400000
variable {M N : nb_M}
noncomputable def hs_lv (h : Nat → Nat → Int32) (i b : Nat) : Nat := @ite Nat (hs_le h i b) (Classical.propDecidable _) 1 0
theorem hs_b1 : ∀ a, a < 9 → ∀ s, s < 2 ^ a → ∀ b, b < a → ((s + 2 ^ a) / 2 ^ b) % 2 = (s / 2 ^ b) % 2 := by decide +kernel
theorem hs_b2 : ∀ a, a < 9 → ∀ s, s < 2 ^ a → ((s + 2 ^ a) / 2 ^ a) % 2 = 1 := by decide +kernel
theorem hs_b3 : ∀ a, a < 9 → ∀ s, s < 2 ^ a → (s / 2 ^ a) % 2 = 0 := by decide +kernel
theorem hs_b4 : ∀ a, a < 9 → ∀ s, s < 512 → ((nI s >>> (nI a &&& 31)) &&& 1) = nI ((s / 2 ^ a) % 2) := by decide +kernel
theorem hs_isl' (R : hs_Rel M N) {i a : Nat} (h9 : a < 9) : f_X4_isLeft M (nI a) (nI i) = some (nI (hs_lv (hs_ho 1 M) i a)) := by
  have x6 : hs_ho 1 M 6 a = M.1 7 a := rfl
  have x7 : hs_ho 1 M 7 a = M.1 8 a := rfl
  have x0 : hs_ho 1 M 0 0 = M.1 1 0 := rfl
  unfold f_X4_isLeft hs_lv hs_le
  rw [if_neg (nI_in (c := a) (N := 9) h9 (by decide)), nI_clamp (show a < 2 ^ 31 by omega), hs_cco R.2.1 h9, x6, x7, x0]
  simp only [nb_o, nb_n]
  by_cases z1 : M.1 7 a = nI i
  · rw [if_pos z1]
    by_cases z2 : M.1 8 a = 0
    · rw [if_pos z2]
      by_cases z3 : hs_co (hs_ho 1 M) a (M.1 1 0) = 0
      · rw [if_pos z3, if_neg (fun w => w.2.2 z3)]; rfl
      · rw [if_neg z3, if_pos ⟨z1, z2, z3⟩]; rfl
    · rw [if_neg z2, if_neg (fun w => z2 w.2.1)]; rfl
  · rw [if_neg z1, if_neg (fun w => z1 w.1)]; rfl
theorem hs_rlb (R : hs_Rel M N) {i q : Nat} (hq : q ≤ 9) (e : hs_ho 1 M 0 6 = nI q) : ∀ (n a s : Nat), a ≤ q → s < 2 ^ a → q - a < n → ∃ s', s' < 2 ^ q ∧ f_X7_leftOf_4 n N (nI i) (nI s) (nI a) = some (nI s') ∧ ∀ b, b < q → (s' / 2 ^ b) % 2 = if b < a then (s / 2 ^ b) % 2 else hs_lv (hs_ho 1 M) i b := by
  intro n
  induction n with
  | zero => intro a s _ _ h; omega
  | succ n ih =>
    intro a s ha hs hn
    have e2 : N.1 1 2 = nI q := (hs_r2 R.1).trans e
    rw [f_X7_leftOf_4, hs_c2, e2]
    by_cases hl : a < q
    · have h9 : a < 9 := by omega
      have hp : 2 ^ (a + 1) = 2 ^ a + 2 ^ a := by rw [Nat.pow_succ]; omega
      rw [if_neg (nI_ge hl (by omega)), hs_of2 R.1 h9, hs_of3 R.1 h9, hs_rdc R.1 R.2.1 h9]
      simp only [nb_o, nb_n, hs_or0]
      rw [hs_or a h9 s hs, nI_1]
      have no : ¬ hs_le (hs_ho 1 M) i a → ∃ s', s' < 2 ^ q ∧ f_X7_leftOf_4 n N (nI i) (nI s) (nI (a + 1)) = some (nI s') ∧ ∀ b, b < q → (s' / 2 ^ b) % 2 = if b < a then (s / 2 ^ b) % 2 else hs_lv (hs_ho 1 M) i b := by
        intro hn'
        obtain ⟨s', g1, g2, g3⟩ := ih (a + 1) s (by omega) (by omega) (by omega)
        refine ⟨s', g1, g2, fun b hb => ?_⟩
        rw [g3 b hb]
        by_cases w : b < a
        · rw [if_pos w, if_pos (by omega)]
        · by_cases w2 : b = a
          · subst w2
            rw [if_pos (by omega), if_neg (by omega), hs_b3 b h9 s hs]
            exact (if_neg hn').symm
          · rw [if_neg (by omega), if_neg w]
      have yes : hs_le (hs_ho 1 M) i a → ∃ s', s' < 2 ^ q ∧ f_X7_leftOf_4 n N (nI i) (nI (s + 2 ^ a)) (nI (a + 1)) = some (nI s') ∧ ∀ b, b < q → (s' / 2 ^ b) % 2 = if b < a then (s / 2 ^ b) % 2 else hs_lv (hs_ho 1 M) i b := by
        intro hn'
        obtain ⟨s', g1, g2, g3⟩ := ih (a + 1) (s + 2 ^ a) (by omega) (by omega) (by omega)
        refine ⟨s', g1, g2, fun b hb => ?_⟩
        rw [g3 b hb]
        by_cases w : b < a
        · rw [if_pos w, if_pos (by omega), hs_b1 a h9 s hs b w]
        · by_cases w2 : b = a
          · subst w2
            rw [if_pos (by omega), if_neg (by omega), hs_b2 b h9 s hs]
            exact (if_pos hn').symm
          · rw [if_neg (by omega), if_neg w]
      by_cases z1 : hs_ho 1 M 6 a = nI i
      · rw [if_pos z1]
        by_cases z2 : hs_ho 1 M 7 a = 0
        · rw [if_pos z2]
          by_cases z3 : hs_co (hs_ho 1 M) a (hs_ho 1 M 0 0) = 0
          · rw [if_pos z3]; exact no (fun w => w.2.2 z3)
          · rw [if_neg z3]; exact yes ⟨z1, z2, z3⟩
        · rw [if_neg z2]; exact no (fun w => z2 w.2.1)
      · rw [if_neg z1]; exact no (fun w => z1 w.1)
    · have : a = q := by omega
      subst this
      rw [if_pos (nI_le (Nat.le_refl _) (by omega))]
      exact ⟨s, hs, rfl, fun b hb => (if_pos hb).symm⟩
theorem hs_rlf (R : hs_Rel M N) {i q : Nat} (hq : q ≤ 9) (e : hs_ho 1 M 0 6 = nI q) : ∃ s, s < 512 ∧ f_X7_leftOf N (nI i) = some (nI s) ∧ ∀ b, b < q → ((nI s >>> (nI b &&& 31)) &&& 1) = nI (hs_lv (hs_ho 1 M) i b) := by
  obtain ⟨s, h1, h2, h3⟩ := hs_rlb R (i := i) hq e nb_F 0 0 (by omega) (by decide) (by have := hs_F; omega)
  have h512 : s < 512 := Nat.lt_of_lt_of_le h1 (Nat.pow_le_pow_right (by decide) hq)
  refine ⟨s, h512, h2, fun b hb => ?_⟩
  rw [hs_b4 b (by omega) s h512, h3 b hb, if_neg (by omega)]
end HSZ2
