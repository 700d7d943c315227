/-! the ways, from the start -/
section HSZ6
set_option maxHeartbeats 400000
variable {M N : nb_M}
theorem hs_leu {K : nb_M} {c j i : Nat} {v : Int64} : (nb_l K c j v).2 c i = if i = j then v else K.2 c i := by
  by_cases h : i = j
  · subst h; rw [hs_leq, if_pos rfl]
  · rw [hs_lne h, if_neg h]
theorem hs_c5l (x : Int32) (y : Int64) : ∀ (n j : Nat) (K : nb_M), K.1 = M.1 → 1 ≤ j → j ≤ 10 → 10 - j < n → (∀ b, 1 ≤ b → b < j → K.2 39 b = nL 0) → ∃ K', f_X4_countWays_5 n K x y (nI j) = f_X4_countWays_36 nb_F K' x y (nI 0) ∧ K'.1 = M.1 ∧ ∀ b, b < 10 → K'.2 39 b = nL (if b = 0 then 1 else 0) := by
  intro n
  induction n with
  | zero => intro j K _ _ _ h; omega
  | succ n ih =>
    intro j K hK h1 hj hn h0
    rw [f_X4_countWays_5]
    by_cases hl : j < 10
    · rw [if_neg (show ¬ (9 : Int32) < nI j from nI_nlt (a := 9) (by omega) (by decide)), if_neg (nI_in hl (by decide)), nI_clamp (show j < 2 ^ 31 by omega), hs_nn, nI_1]
      exact ih (j + 1) (nb_l K 39 j 0) hK (by omega) (by omega) (by omega) (fun b hb hb2 => by
        rw [hs_leu]
        by_cases e : b = j
        · rw [if_pos e]; rfl
        · rw [if_neg e]; exact h0 b hb (by omega))
    · have : j = 10 := by omega
      subst this
      rw [if_pos (show (9 : Int32) < nI 10 from by decide), hs_n0, hs_nn]
      refine ⟨_, rfl, hK, fun b hb => ?_⟩
      rw [hs_leu]
      by_cases e : b = 0
      · rw [if_pos e, if_pos e]; rfl
      · rw [if_neg e, if_neg e]; exact h0 b (by omega) (by omega)
theorem hs_cwa (R : hs_Rel M N) {i q : Nat} (hi : i < 5) (hq : q ≤ 9) (eq : hs_ho 1 M 0 6 = nI q) : ∃ K', f_X4_countWays M (nI i) = some (nL (16 ^ hs_wn (hs_ho 1 M) i q), K') ∧ (∀ k, k ≠ 14 → k ≠ 17 → K'.1 k = M.1 k) ∧ ∀ j, j < 10 → K'.2 39 j = nL (hs_ww (hs_ho 1 M) i q j) := by
  obtain ⟨K, g1, g2, g3⟩ := hs_c5l (M := M) (nI i) 1 nb_F 1 M rfl (by omega) (by omega) (by have := hs_F; omega) (fun b h1 h2 => by omega)
  obtain ⟨K', k1, k2, k3⟩ := hs_cw R hi hq eq nb_F 0 K (fun k _ _ => by rw [g2]) (by omega) (by have := hs_F; omega) g3
  refine ⟨K', ?_, k2, k3⟩
  unfold f_X4_countWays
  exact Eq.trans g1 k1
theorem hs_r8l (x s : Int32) : ∀ (n j : Nat) (K : nb_M), K.1 = N.1 → j ≤ 10 → 10 - j < n → (∀ b, b < j → K.2 11 b = nL (if b = 0 then 1 else 0)) → ∃ K', f_X7_findWays_8 n K x s (nI j) = f_X7_findWays_42 nb_F K' x s (nI 0) ∧ K'.1 = N.1 ∧ (∀ b, b < 10 → K'.2 11 b = nL (if b = 0 then 1 else 0)) ∧ K'.2 0 17 = nL 1 := by
  intro n
  induction n with
  | zero => intro j K _ _ h; omega
  | succ n ih =>
    intro j K hK hj hn h0
    rw [f_X7_findWays_8]
    by_cases hl : j < 10
    · have next : ∀ v : Int64, v = nL (if j = 0 then 1 else 0) → ∃ K', f_X7_findWays_8 n (nb_l K 11 j v) x s (nI (j + 1)) = f_X7_findWays_42 nb_F K' x s (nI 0) ∧ K'.1 = N.1 ∧ (∀ b, b < 10 → K'.2 11 b = nL (if b = 0 then 1 else 0)) ∧ K'.2 0 17 = nL 1 := by
        intro v hv
        exact ih (j + 1) (nb_l K 11 j v) hK (by omega) (by omega) (fun b hb => by
          rw [hs_leu]
          by_cases e : b = j
          · subst e; rw [if_pos rfl, hv]
          · rw [if_neg e]; exact h0 b (by omega))
      rw [if_neg (show ¬ (9 : Int32) < nI j from nI_nlt (a := 9) (by omega) (by decide)), if_neg (nI_in hl (by decide)), if_neg (nI_in hl (by decide)), nI_clamp (show j < 2 ^ 31 by omega), hs_nn, hs_nn, nI_1]
      by_cases e : j = 0
      · subst e
        rw [if_pos (show nI 0 = 0 from rfl)]
        exact next 1 rfl
      · rw [if_neg (show ¬ nI j = 0 from hs_ne (b := 0) e (by omega) (by decide))]
        exact next 0 (by rw [if_neg e]; rfl)
    · have : j = 10 := by omega
      subst this
      rw [if_pos (show (9 : Int32) < nI 10 from by decide), hs_nn]
      exact ⟨_, rfl, hK, fun b hb => by rw [hs_lno (by decide)]; exact h0 b hb, hs_leq⟩
theorem hs_rwa (R : hs_Rel M N) {i q : Nat} (hi : i < 5) (hq : q ≤ 9) (eq : hs_ho 1 M 0 6 = nI q) : ∃ K', f_X7_findWays N (nI i) = some K' ∧ (∀ k, k ≠ 9 → k ≠ 10 → K'.1 k = N.1 k) ∧ (∀ j, j < 10 → K'.2 11 j = nL (hs_ww (hs_ho 1 M) i q j)) ∧ K'.2 0 17 = nL (16 ^ hs_wn (hs_ho 1 M) i q) := by
  obtain ⟨s, -, h1, h2⟩ := hs_rlf R (i := i) hq eq
  obtain ⟨K, g1, g2, g3, g4⟩ := hs_r8l (N := N) (nI i) (nI s) nb_F 0 N rfl (by omega) (by have := hs_F; omega) (fun b h => by omega)
  obtain ⟨K', k1, k2, k3, k4⟩ := hs_rww R hi hq eq h2 nb_F 0 K (fun k _ _ => by rw [g2]) (by omega) (by have := hs_F; omega) g3 g4
  refine ⟨K', ?_, k2, k3, k4⟩
  unfold f_X7_findWays
  rw [h1, hs_oo]
  exact Eq.trans g1 k1
end HSZ6
