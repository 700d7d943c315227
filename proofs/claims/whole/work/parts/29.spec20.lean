/-! the ways in the class -/
section HSZ4
set_option maxHeartbeats 400000
variable {M N : nb_M}
theorem hs_op {α β γ : Type} (x : α) (y : β) (f : α → β → Option γ) : nb_p (some (x, y)) f = f x y := Eq.trans rfl rfl
theorem hs_cw (R : hs_Rel M N) {i q : Nat} (hi : i < 5) (hq : q ≤ 9) (eq : hs_ho 1 M 0 6 = nI q) : ∀ (n a : Nat) (K : nb_M), (∀ k, k ≠ 14 → k ≠ 17 → K.1 k = M.1 k) → a ≤ q → q - a < n → (∀ j, j < 10 → K.2 39 j = nL (hs_ww (hs_ho 1 M) i a j)) → ∃ K', f_X4_countWays_36 n K (nI i) (nL (16 ^ hs_wn (hs_ho 1 M) i a)) (nI a) = some (nL (16 ^ hs_wn (hs_ho 1 M) i q), K') ∧ (∀ k, k ≠ 14 → k ≠ 17 → K'.1 k = M.1 k) ∧ ∀ j, j < 10 → K'.2 39 j = nL (hs_ww (hs_ho 1 M) i q j) := by
  intro n
  induction n with
  | zero => intro a K _ _ h; omega
  | succ n ih =>
    intro a K hK ha hn hV
    have S0 : hs_Sc M (K.1, M.2) := ⟨hK, rfl⟩
    have RK : hs_Rel K N := (R.sc S0 (hs_Sd.rf N)).l rfl rfl
    have ho : hs_ho 1 K = hs_ho 1 M := S0.ho
    have e6 : K.1 1 6 = nI q := by rw [hK 1 (by omega) (by omega)]; exact eq
    rw [f_X4_countWays_36, e6]
    by_cases hl : a < q
    · rw [if_neg (nI_ge hl (by omega)), hs_isl' RK (i := i) (show a < 9 by omega), ho, hs_oo]
      have w1 : hs_ww (hs_ho 1 M) i (a + 1) = if hs_lv (hs_ho 1 M) i a = 0 then hs_ww (hs_ho 1 M) i a else hs_wy (hs_ww (hs_ho 1 M) i a) (hs_rk (hs_ho 1 M) a (hs_ho 1 M 1 i)).toNatClampNeg := rfl
      have w2 : hs_wn (hs_ho 1 M) i (a + 1) = hs_wn (hs_ho 1 M) i a + hs_lv (hs_ho 1 M) i a := rfl
      rcases hs_lv01 (hs_ho 1 M) i a with e | e
      · rw [e, if_pos (show nI 0 = 0 from rfl), nI_1]
        rw [e, Nat.add_zero] at w2
        rw [e, if_pos rfl] at w1
        have step := ih (a + 1) K hK (by omega) (by omega) (by rw [w1]; exact hV)
        rw [w2] at step
        exact step
      · obtain ⟨k, hk, ek⟩ := hs_rkn (hs_ho 1 M) a (hs_ho 1 M 1 i)
        rw [e] at w2
        rw [e, if_neg (by decide), ek, nI_clamp (show k < 2 ^ 31 by omega)] at w1
        obtain ⟨K2, g1, g2⟩ := hs_crk RK.1 RK.2.1 (a := a) (by omega) (K.1 2 i)
        have e2 : K.1 2 i = hs_ho 1 M 1 i := by rw [hK 2 (by omega) (by omega)]; rfl
        rw [e2, ho, ek] at g1
        rw [e, if_neg (show ¬ nI 1 = 0 from hs_10), if_neg (nI_in hi (by decide)), nI_clamp (show i < 2 ^ 31 by omega), e2, g1, hs_op, nI_1]
        obtain ⟨K3, k1, k2, -, k4⟩ := hs_wc K2 hk (V := hs_ww (hs_ho 1 M) i a) (fun j hj => by rw [g2.2]; exact hV j hj) (fun K0 => nb_n (nL (16 ^ hs_wn (hs_ho 1 M) i a) * (16 : Int64)) fun v => f_X4_countWays_36 n K0 (nI i) v (nI (a + 1)))
        have hp : nL (16 ^ hs_wn (hs_ho 1 M) i a) * (16 : Int64) = nL (16 ^ hs_wn (hs_ho 1 M) i (a + 1)) := by
          rw [w2, Nat.pow_succ, ← nL_mul]; rfl
        obtain ⟨K', m1, m2, m3⟩ := ih (a + 1) K3 (fun k h1 h2 => by rw [k2, g2.1 k h1 h2]; exact hK k h1 h2) (by omega) (by omega) (by rw [w1]; exact k4)
        rw [← hp] at m1
        exact ⟨K', Eq.trans k1 (Eq.trans (hs_nn _ _) m1), m2, m3⟩
    · have : a = q := by omega
      subst this
      rw [if_pos (nI_le (Nat.le_refl _) (by omega))]
      exact ⟨K, rfl, hK, hV⟩
end HSZ4
