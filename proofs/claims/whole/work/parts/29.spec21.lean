/-! the ways in the reference -/
section HSZ5
set_option maxHeartbeats 400000
variable {M N : nb_M}
theorem hs_rww (R : hs_Rel M N) {i q s : Nat} (hi : i < 5) (hq : q ≤ 9) (eq : hs_ho 1 M 0 6 = nI q) (hs : ∀ b, b < q → ((nI s >>> (nI b &&& 31)) &&& 1) = nI (hs_lv (hs_ho 1 M) i b)) : ∀ (n a : Nat) (K : nb_M), (∀ k, k ≠ 9 → k ≠ 10 → K.1 k = N.1 k) → a ≤ q → q - a < n → (∀ j, j < 10 → K.2 11 j = nL (hs_ww (hs_ho 1 M) i a j)) → K.2 0 17 = nL (16 ^ hs_wn (hs_ho 1 M) i a) → ∃ K', f_X7_findWays_42 n K (nI i) (nI s) (nI a) = some K' ∧ (∀ k, k ≠ 9 → k ≠ 10 → K'.1 k = N.1 k) ∧ (∀ j, j < 10 → K'.2 11 j = nL (hs_ww (hs_ho 1 M) i q j)) ∧ K'.2 0 17 = nL (16 ^ hs_wn (hs_ho 1 M) i q) := by
  intro n
  induction n with
  | zero => intro a K _ _ h; omega
  | succ n ih =>
    intro a K hK ha hn hV hA
    have S0 : hs_Sd N (K.1, N.2) := ⟨hK, rfl⟩
    have RK : hs_Rel M K := (R.sc (hs_Sc.rf M) S0).l rfl rfl
    have e2 : K.1 1 2 = nI q := (hs_r2 RK.1).trans eq
    rw [f_X7_findWays_42, hs_c2, e2]
    by_cases hl : a < q
    · rw [if_neg (nI_ge hl (by omega)), hs a hl]
      have w1 : hs_ww (hs_ho 1 M) i (a + 1) = if hs_lv (hs_ho 1 M) i a = 0 then hs_ww (hs_ho 1 M) i a else hs_wy (hs_ww (hs_ho 1 M) i a) (hs_rk (hs_ho 1 M) a (hs_ho 1 M 1 i)).toNatClampNeg := rfl
      have w2 : hs_wn (hs_ho 1 M) i (a + 1) = hs_wn (hs_ho 1 M) i a + hs_lv (hs_ho 1 M) i a := rfl
      rcases hs_lv01 (hs_ho 1 M) i a with e | e
      · rw [e, if_neg (show ¬ nI 0 = 1 from by decide), nI_1]
        rw [e, Nat.add_zero] at w2
        rw [e, if_pos rfl] at w1
        have step := ih (a + 1) K hK (by omega) (by omega) (by rw [w1]; exact hV) (by rw [w2]; exact hA)
        exact step
      · obtain ⟨k, hk, ek⟩ := hs_rkn (hs_ho 1 M) a (hs_ho 1 M 1 i)
        rw [e] at w2
        rw [e, if_neg (by decide), ek, nI_clamp (show k < 2 ^ 31 by omega)] at w1
        obtain ⟨K2, g1, g2⟩ := hs_rri RK.1 RK.2.1 (a := a) (by omega) hi
        rw [ek] at g1
        rw [e, if_pos (show nI 1 = 1 from rfl), g1, hs_op, nI_1, hs_nn]
        obtain ⟨K3, k1, k2, k3, k4⟩ := hs_wr K2 hk (V := hs_ww (hs_ho 1 M) i a) (fun j hj => by rw [g2.2]; exact hV j hj) (fun K0 => nb_n (nb_l K0 0 17 ((K0.2 0 17) * (16 : Int64))) fun K9 => f_X7_findWays_42 n K9 (nI i) (nI s) (nI (a + 1)))
        have hA3 : K3.2 0 17 = nL (16 ^ hs_wn (hs_ho 1 M) i a) := by rw [k3 0 (by omega), g2.2]; exact hA
        have hp : nL (16 ^ hs_wn (hs_ho 1 M) i a) * (16 : Int64) = nL (16 ^ hs_wn (hs_ho 1 M) i (a + 1)) := by
          rw [w2, Nat.pow_succ, ← nL_mul]; rfl
        obtain ⟨K', m1, m2, m3, m4⟩ := ih (a + 1) (nb_l K3 0 17 ((K3.2 0 17) * (16 : Int64))) (fun k h1 h2 => by
          show K3.1 k = _
          rw [k2, g2.1 k h1 h2]; exact hK k h1 h2) (by omega) (by omega) (fun j hj => by
          rw [hs_lno (by decide), w1]; exact k4 j hj) (by rw [hs_leq, hA3]; exact hp)
        exact ⟨K', Eq.trans k1 (Eq.trans (hs_nn _ _) m1), m2, m3, m4⟩
    · have : a = q := by omega
      subst this
      rw [if_pos (nI_le (Nat.le_refl _) (by omega))]
      exact ⟨K, rfl, hK, hV, hA⟩
end HSZ5
