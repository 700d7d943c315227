section HSZ8
set_option maxHeartbeats 400000
variable {M N : nb_M}
def hs_sm (V : Nat → Nat) : Nat → Nat
  | 0 => 0
  | k + 1 => V (9 - k) + hs_sm V k
theorem hs_smb {V : Nat → Nat} {B : Nat} (h : ∀ j, V j ≤ B) : ∀ k, hs_sm V k ≤ k * B
  | 0 => Nat.zero_le _
  | k + 1 => by
    have := hs_smb h k
    have := h (9 - k)
    show V (9 - k) + hs_sm V k ≤ (k + 1) * B
    rw [Nat.succ_mul]
    omega
theorem hs_co17 (K : nb_M) {V : Nat → Nat} (hV : ∀ j, j < 10 → K.2 39 j = nL (V j)) (x : Int64) : ∀ (n k : Nat) (acc : Nat), k ≤ 10 → k < n → f_X4_thinkOut_17 n K x (nL acc) (nI (10 - k)) = nb_o (f_X4_setFraction K (nL (acc + hs_sm V k)) x) fun M => some M := by
  intro n
  induction n with
  | zero => intro k _ _ h; omega
  | succ n ih =>
    intro k acc hk hn
    rw [f_X4_thinkOut_17]
    match k with
    | 0 => rw [if_pos (show (9 : Int32) < nI (10 - 0) from by decide)]; rfl
    | k + 1 =>
      have e : 10 - (k + 1) = 9 - k := by omega
      rw [e, if_neg (show ¬ (9 : Int32) < nI (9 - k) from nI_nlt (a := 9) (by omega) (by decide)), if_neg (nI_in (show 9 - k < 10 by omega) (by decide)), nI_clamp (show 9 - k < 2 ^ 31 by omega), hV (9 - k) (by omega), hs_nn, nL_add, nI_1, show 9 - k + 1 = 10 - k by omega, ih k _ (by omega) (by omega), Nat.add_assoc]
      rfl
theorem hs_r39 (K : nb_M) {V : Nat → Nat} (hV : ∀ j, j < 10 → K.2 11 j = nL (V j)) (x : Int32) : ∀ (n k : Nat) (acc : Nat), k ≤ 10 → k < n → f_X7_through_39 n K x (nL acc) (nI (10 - k)) = nb_o (f_X7_partOf (nL (acc + hs_sm V k)) (K.2 0 17) x) fun r => some (r, K) := by
  intro n
  induction n with
  | zero => intro k _ _ h; omega
  | succ n ih =>
    intro k acc hk hn
    rw [f_X7_through_39]
    match k with
    | 0 => rw [if_pos (show (9 : Int32) < nI (10 - 0) from by decide)]; rfl
    | k + 1 =>
      have e : 10 - (k + 1) = 9 - k := by omega
      rw [e, if_neg (show ¬ (9 : Int32) < nI (9 - k) from nI_nlt (a := 9) (by omega) (by decide)), if_neg (nI_in (show 9 - k < 10 by omega) (by decide)), nI_clamp (show 9 - k < 2 ^ 31 by omega), hV (9 - k) (by omega), hs_nn, nL_add, nI_1, show 9 - k + 1 = 10 - k by omega, ih k _ (by omega) (by omega), Nat.add_assoc]
      rfl
theorem hs_dun (R : hs_Rel M N) {i : Nat} (hi : i < 5) : ∃ k, k ≤ 10 ∧ hs_due (hs_ho 1 M) i = nI (10 - k) := by
  obtain ⟨d, hd, ed⟩ := R.2.1.at (k := 2) (j := i) ⟨by unfold hs_V; omega, by omega, by omega⟩
  obtain ⟨x, hx, ex⟩ := R.2.1.at (k := 3) (j := i) ⟨by unfold hs_V; omega, by omega, by omega⟩
  have hd : d ≤ 9 := by simpa [hs_bd] using hd
  have hx : x ≤ 9999 := by simpa [hs_bd] using hx
  unfold hs_due
  rw [ed, ex]
  by_cases w : x < d
  · rw [pk_sub (by omega), if_pos (show (0 : Int32) < nI (d - x) from nI_lt (a := 0) (by omega) (by omega))]
    exact ⟨10 - (d - x), by omega, by congr 1; omega⟩
  · rw [if_neg]
    · exact ⟨10, by omega, rfl⟩
    · rw [Int32.lt_iff_toInt_lt, pk_sub_toInt (by omega) (by omega), show (0 : Int32).toInt = 0 from by decide]
      omega
theorem s_through (R : hs_Rel M N) (p0 p1 : Int32) : hs_SL (f_X6_through M p0 p1) (f_X7_through N p0 p1) := by
  unfold f_X6_through f_X7_through
  rcases hs_per R p0 with ⟨c1, d1, i, hi, -, rfl⟩ | ⟨c1, d1⟩
  · rw [c1, d1, if_neg hs_10, if_neg hs_10]
    rcases hs_wi p1 (b := 1) (by decide) (B := 1) rfl with ⟨c3, d3, t, ht, rfl⟩ | ⟨c3, d3⟩
    · rw [c3, d3, if_neg hs_10, if_neg hs_10]
      obtain ⟨q, hq, eq⟩ := hs_nq R.2.1
      obtain ⟨K, g1, g2, g3⟩ := hs_cwa R hi hq eq
      obtain ⟨L, k1, k2, k3, k4⟩ := hs_rwa R hi hq eq
      obtain ⟨k, hk, ek⟩ := hs_dun R hi
      have hn : hs_wn (hs_ho 1 M) i q ≤ 9 := Nat.le_trans (hs_wt _ _ _) hq
      have hb := hs_smb (hs_wb (hs_ho 1 M) i q) k
      have h9 := hs_16l hn
      have h99 : 16 ^ 9 < 2 ^ 50 := by decide
      have hb2 : k * 16 ^ hs_wn (hs_ho 1 M) i q ≤ 10 * 16 ^ hs_wn (hs_ho 1 M) i q := Nat.mul_le_mul_right _ hk
      have h0 : 16 ^ hs_wn (hs_ho 1 M) i q ≠ 0 := Nat.pos_iff_ne_zero.mp (Nat.pow_pos (by decide))
      have hsum : hs_sm (hs_ww (hs_ho 1 M) i q) k < 2 ^ 62 := by omega
      obtain ⟨K2, m1, m2, m3, m4⟩ := hs_sff K (p := hs_sm (hs_ww (hs_ho 1 M) i q) k) (n := hs_wn (hs_ho 1 M) i q) hsum hn
      have RK0 : hs_Rel K L := hs_scr R g2 k2
      have RK : hs_Rel K2 L := RK0.l m2 rfl
      have hoK : hs_ho 1 K = hs_ho 1 M := (show hs_Sc M (K.1, M.2) from ⟨g2, rfl⟩).ho
      have a1 := hs_co17 K g3 (nL (16 ^ hs_wn (hs_ho 1 M) i q)) nb_F k 0 hk (by have := hs_F; omega)
      have a2 := hs_r39 L k3 (nI t) nb_F k 0 hk (by have := hs_F; omega)
      rw [Nat.zero_add] at a1 a2
      have a1' : f_X4_thinkOut_17 nb_F K (nL (16 ^ hs_wn (hs_ho 1 M) i q)) 0 (nI (10 - k)) = _ := a1
      have a2' : f_X7_through_39 nb_F L (nI t) 0 (nI (10 - k)) = _ := a2
      unfold f_X4_thinkOut
      rw [g1, hs_op, hs_cdue hi, hoK, ek, hs_oo, a1', m1, hs_oo, hs_oo, k1, hs_oo, hs_rdue RK0.1 hi, hoK, ek, hs_oo, a2', k4, hs_part _ _ _ hsum (by omega) h0, hs_oo, m3, m4]
      by_cases z : nI t = 0
      · rw [if_pos z, if_pos z]; exact ⟨_, _, _, rfl, rfl, RK⟩
      · rw [if_neg z, if_neg z]; exact ⟨_, _, _, rfl, rfl, RK⟩
    · rw [c3, d3, if_pos rfl, if_pos rfl]; exact hs_el1 R
  · rw [c1, d1, if_pos rfl, if_pos rfl]; exact hs_el1 R
end HSZ8
