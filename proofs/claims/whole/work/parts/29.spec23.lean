/-! the calls: odds, through -/
section HSZ7
set_option maxHeartbeats 400000
variable {M N : nb_M}
theorem hs_el1 (R : hs_Rel M N) : hs_SL (nb_p (f_X6_fail M 1) fun r M => some (r.toInt64, M)) (nb_p (f_X7_error N (-1000000001)) fun r M => some (r.toInt64, M)) := by
  obtain ⟨v, M', N', h1, h2, h3⟩ := hs_err R (k := 1) (by decide) (by decide) (e := -1000000001) (by decide) (by decide)
  have h1' : f_X6_fail M 1 = some (v, M') := h1
  rw [h1', h2]
  exact ⟨_, _, _, rfl, rfl, h3⟩
theorem hs_16p (n : Nat) : 16 ^ n = 2 ^ (4 * n) := by rw [Nat.pow_mul]
theorem hs_16l {n : Nat} (h : n ≤ 9) : 16 ^ n ≤ 16 ^ 9 := Nat.pow_le_pow_right (by decide) h
theorem hs_sff (K : nb_M) {p n : Nat} (hp : p < 2 ^ 62) (hn : n ≤ 9) : ∃ K', f_X4_setFraction K (nL p) (nL (16 ^ n)) = some K' ∧ K'.1 = K.1 ∧ K'.2 38 0 = nL (p / Nat.gcd p (16 ^ n)) ∧ K'.2 38 1 = nL (16 ^ n / Nat.gcd p (16 ^ n)) := by
  unfold f_X4_setFraction
  rw [hs_nn, hs_nn, hs_16p]
  exact hs_sf nb_F (4 * n) 0 p _ hp (by omega) (by have := hs_F; omega) (by rw [hs_lne (by decide), hs_leq]) hs_leq
theorem hs_scr {M' N' : nb_M} (R : hs_Rel M N) (h1 : ∀ k, k ≠ 14 → k ≠ 17 → M'.1 k = M.1 k) (h2 : ∀ k, k ≠ 9 → k ≠ 10 → N'.1 k = N.1 k) : hs_Rel M' N' := by
  have S1 : hs_Sc M (M'.1, M.2) := ⟨h1, rfl⟩
  have S2 : hs_Sd N (N'.1, N.2) := ⟨h2, rfl⟩
  exact (R.sc S1 S2).l rfl rfl
theorem s_odds (R : hs_Rel M N) (p0 p1 p2 : Int32) : hs_SL (f_X6_odds M p0 p1 p2) (f_X7_odds N p0 p1 p2) := by
  unfold f_X6_odds f_X7_odds
  rcases hs_per R p0 with ⟨c1, d1, i, hi, -, rfl⟩ | ⟨c1, d1⟩
  · rw [c1, d1, if_neg hs_10, if_neg hs_10]
    rcases hs_wi p1 (b := 9) (by decide) (B := 9) rfl with ⟨c2, d2, j, hj, rfl⟩ | ⟨c2, d2⟩
    · rw [c2, d2, if_neg hs_10, if_neg hs_10]
      rcases hs_wi p2 (b := 1) (by decide) (B := 1) rfl with ⟨c3, d3, t, ht, rfl⟩ | ⟨c3, d3⟩
      · rw [c3, d3, if_neg hs_10, if_neg hs_10]
        obtain ⟨q, hq, eq⟩ := hs_nq R.2.1
        obtain ⟨K, g1, g2, g3⟩ := hs_cwa R hi hq eq
        obtain ⟨L, k1, k2, k3, k4⟩ := hs_rwa R hi hq eq
        have hn : hs_wn (hs_ho 1 M) i q ≤ 9 := Nat.le_trans (hs_wt _ _ _) hq
        have hb := hs_wb (hs_ho 1 M) i q j
        have h9 := hs_16l hn
        have h99 : 16 ^ 9 < 2 ^ 62 := by decide
        have h0 : 16 ^ hs_wn (hs_ho 1 M) i q ≠ 0 := Nat.pos_iff_ne_zero.mp (Nat.pow_pos (by decide))
        obtain ⟨K2, m1, m2, m3, m4⟩ := hs_sff K (p := hs_ww (hs_ho 1 M) i q j) (n := hs_wn (hs_ho 1 M) i q) (by omega) hn
        have RK : hs_Rel K2 L := hs_scr R (fun k a b => by rw [m2]; exact g2 k a b) k2
        have hb10 := nI_in (show j < 10 by omega) (by decide)
        rw [nI_clamp (show j < 2 ^ 31 by omega)] at hb10
        unfold f_X4_thinkOdds
        rw [g1, hs_op, if_neg (nI_in (show j < 10 by omega) (by decide)), nI_clamp (show j < 2 ^ 31 by omega), g3 j (by omega), m1, hs_oo, hs_oo, k1, hs_oo, if_neg hb10, k3 j (by omega), k4, hs_part _ _ _ (by omega) (by omega) h0, hs_oo, m3, m4]
        by_cases z : nI t = 0
        · rw [if_pos z, if_pos z]; exact ⟨_, _, _, rfl, rfl, RK⟩
        · rw [if_neg z, if_neg z]; exact ⟨_, _, _, rfl, rfl, RK⟩
      · rw [c3, d3, if_pos rfl, if_pos rfl]; exact hs_el1 R
    · rw [c2, d2, if_pos rfl, if_pos rfl]; exact hs_el1 R
  · rw [c1, d1, if_pos rfl, if_pos rfl]; exact hs_el1 R
end HSZ7
