/-! text: numbers and names -/
theorem tx_dig (r : Int32) : (f_X1_isDigit r = 1 ∧ f_X7_in r 48 57 = 1 ∧ ∃ k, k < 10 ∧ r = nI (48 + k)) ∨ (f_X1_isDigit r = 0 ∧ f_X7_in r 48 57 = 0) := by
  rw [hs_in]
  unfold f_X1_isDigit
  by_cases h1 : r < 48
  · exact Or.inr ⟨if_pos h1, if_pos (Or.inl h1)⟩
  · rw [if_neg h1]
    by_cases h2 : 57 < r
    · exact Or.inr ⟨if_pos h2, if_pos (Or.inr h2)⟩
    · refine Or.inl ⟨if_neg h2, if_neg (fun w => w.elim h1 h2), ?_⟩
      obtain ⟨j, hj, e⟩ := nI_of2 (x := r) (M := 57) (n := 57) (by decide) (fun w => h1 (Int32.lt_trans w (by decide))) (Int32.not_lt.mp h2)
      subst e
      have : ¬ j < 48 := fun w => h1 (nI_lt (b := 48) w (by decide))
      exact ⟨j - 48, by omega, congrArg nI (by omega)⟩
theorem tx_10 (v k : Nat) : ((10 : Int32) * nI v + nI (48 + k)) - 48 = nI (10 * v + k) := by
  rw [show (10 : Int32) = nI 10 from rfl, show (48 : Int32) = nI 48 from rfl, pk_mul, nI_add, pk_sub (by omega)]
  exact congrArg nI (by omega)
section TX2
variable {M0 N0 M N : nb_M} {z u a s o : Nat}
/-- the end of a number -/
theorem tx_nend (hz : z ≤ 60) (P : tx_P M0 N0 z a s o M N) (hs : s + 1 ≤ a) {v i : Nat} (hv : v < 10000) (hi : i ≤ 4) (h0 : i ≠ 0) : ∃ M' N', (nb_o (f_X1_step M (nI v)) fun M_2 => some M_2) = some M' ∧ f_X7_number_52 N (nI v) (nI i) = some N' ∧ tx_P M0 N0 z a (s + 1) o M' N' ∧ ∀ d, tx_DD (M.1 36) s d → tx_DD (M'.1 36) (s + 1) (d + 1) := by
  unfold f_X7_number_52
  rw [if_neg (nI_ne0 (by omega) (by omega)), hs_nn]
  have P' : tx_P M0 N0 z a s o M (nb_i N 0 14 0) := by
    obtain ⟨p1, p2, p3, p4, p5, p6, p7, p8, p9, p10, p11⟩ := P
    refine ⟨p1, p2.tr (tx_D.i (by omega)), p3, ?_, p5, ?_, p7, p8, ?_, tx_s, p11⟩
    · rw [tx_n (by decide)]; exact p4
    · rw [tx_n (by decide)]; exact p6
    · rw [tx_n (by decide)]; exact p9
  obtain ⟨M', N', x1, y1, P1, hd⟩ := tx_step hz P' hs (x := nI v) (p := 1) (q := nI v) (Or.inl ⟨v, hv, rfl, rfl, rfl⟩)
  rw [x1, hs_oo, y1, hs_oo]
  refine ⟨M', N', rfl, rfl, P1, fun d h => hd d (d + 1) h (Or.inl ⟨nI_lt (b := 20000) (by omega) (by decide), rfl⟩)⟩
end TX2
theorem tx_num {M0 N0 : nb_M} {z u o : Nat} (E : tx_E M0 N0 z u) : ∀ t i n m a s v M N, i + t = 4 → t < n → t < m → v < 10 ^ i → s + (if i = 0 then 0 else 1) ≤ a → (i = 0 → ∃ r, f_X1_next M = some r ∧ f_X1_isDigit r = 1) → tx_P M0 N0 z a s o M N → ∃ M' N' a', f_X1_readNumber_4 n M (nI v) (nI i) = some M' ∧ f_X7_number_4 m N (nI v) (nI i) = some N' ∧ tx_P M0 N0 z a' (s + 1) o M' N' ∧ a ≤ a' ∧ (i = 0 → a + 1 ≤ a') ∧ ∀ d, tx_DD (M.1 36) s d → tx_DD (M'.1 36) (s + 1) (d + 1) := by
  have hz : z ≤ 60 := E.1
  intro t
  induction t with
  | zero =>
    intro i n m a s v M N hi hn hm hv hs h0 P
    obtain ⟨n, rfl⟩ : ∃ q, n = q + 1 := ⟨n - 1, by omega⟩
    obtain ⟨m, rfl⟩ : ∃ q, m = q + 1 := ⟨m - 1, by omega⟩
    have : i = 4 := by omega
    subst this
    rw [f_X1_readNumber_4, f_X7_number_4, if_pos (show (4 : Int32) ≤ nI 4 by decide), if_pos (show (4 : Int32) ≤ nI 4 by decide)]
    obtain ⟨M', N', x, y, P', hd⟩ := tx_nend hz P (by simpa using hs) (v := v) (i := 4) (by simpa using hv) (by omega) (by omega)
    exact ⟨M', N', a, x, y, P', Nat.le_refl _, fun w => by omega, hd⟩
  | succ t ih =>
    intro i n m a s v M N hi hn hm hv hs h0 P
    obtain ⟨n, rfl⟩ : ∃ q, n = q + 1 := ⟨n - 1, by omega⟩
    obtain ⟨m, rfl⟩ : ∃ q, m = q + 1 := ⟨m - 1, by omega⟩
    obtain ⟨r, c1, c2, c3⟩ := tx_look E P
    rw [f_X1_readNumber_4, f_X7_number_4, if_neg (show ¬ (4 : Int32) ≤ nI i from nI_ge (b := 4) (by omega) (by decide)), if_neg (show ¬ (4 : Int32) ≤ nI i from nI_ge (b := 4) (by omega) (by decide)), c1, c2, hs_oo, hs_oo]
    rcases tx_dig r with ⟨g1, g2, k, hk, rfl⟩ | ⟨g1, g2⟩
    · rw [g1, if_neg hs_10, hs_oo, g2, if_neg hs_10, hs_oo, hs_nn, hs_nn, hs_nn, hs_nn, tx_10, nI_1]
      have haz : a < z := c3 (fun w => by
        have : nI (48 + k) < 0 := by rw [w]; decide
        exact nI_pos (by omega) this)
      have hs' : s ≤ a := by split at hs <;> omega
      have hp : 10 ^ (i + 1) = 10 * 10 ^ i := by rw [Nat.pow_succ, Nat.mul_comm]
      obtain ⟨M', N', a', x, y, P', l1, l2, hd⟩ := ih (i + 1) n m (a + 1) s (10 * v + k) _ _ (by omega) (by omega) (by omega) (by omega) (by simpa using hs') (fun w => by omega) (tx_at P haz hz)
      refine ⟨M', N', a', x, y, P', by omega, fun _ => l1, fun d h => hd d ?_⟩
      rw [hs_gi (by decide)]
      exact h
    · rw [g1, if_pos rfl, hs_oo, g2, if_pos rfl]
      have hi0 : i ≠ 0 := fun w => by
        obtain ⟨r', w1, w2⟩ := h0 w
        rw [c1] at w1
        have : r = r' := Option.some.inj w1
        subst this
        rw [g1] at w2
        exact absurd w2 (by decide)
      have hv4 : v < 10000 := by
        have : 10 ^ i ≤ 10 ^ 4 := Nat.pow_le_pow_right (by decide) (by omega)
        have h4 : (10 : Nat) ^ 4 = 10000 := by decide
        omega
      obtain ⟨M', N', x, y, P', hd⟩ := tx_nend hz P (by simpa [hi0] using hs) (v := v) (i := i) hv4 (by omega) hi0
      exact ⟨M', N', a, x, y, P', Nat.le_refl _, fun w => absurd w hi0, hd⟩
/-- no number begins here -/
theorem tx_nonum {M0 N0 M N : nb_M} {z u a s o : Nat} (E : tx_E M0 N0 z u) (P : tx_P M0 N0 z a s o M N) {r : Int32} (c : f_X7_look N = some r) (g : f_X7_in r 48 57 = 0) : ∃ N', f_X7_number N = some N' ∧ tx_B M0 N0 z M N' := by
  obtain ⟨m, hm⟩ : ∃ m, nb_F = m + 1 := ⟨999, rfl⟩
  unfold f_X7_number
  rw [hm, f_X7_number_4, if_neg (show ¬ (4 : Int32) ≤ 0 by decide), c, hs_oo, g, if_pos rfl]
  unfold f_X7_number_52
  rw [if_pos rfl, hs_nn]
  obtain ⟨N', y, B⟩ := tx_laysB (tx_bad E.1 P) 1 0
  rw [y, hs_oo]
  exact ⟨N', rfl, B⟩
theorem tx_name {M0 N0 M N : nb_M} {z u a s o : Nat} (E : tx_E M0 N0 z u) (P : tx_P M0 N0 z a s o M N) (r : Int32) : (∃ n, n < 3 ∧ f_X1_nameOf M r = some (nI n) ∧ f_X7_nameOf N r = nI n ∧ r ≠ -1 ∧ f_X1_isDigit r = 0) ∨ (f_X1_nameOf M r = some 3 ∧ f_X7_nameOf N r = -1) := by
  obtain ⟨e1, e2, e3, e4, e5, e6, e7⟩ := E
  obtain ⟨p1, p2, p3, p4, p5, p6, p7, p8, p9, p10, p11⟩ := P
  have f5 : M.1 35 5 = nI u := (p1.2 5 (by decide) (by decide)).trans e6
  have g15 : N.1 0 15 = nI u := (p2.2 15 (by omega)).trans e7
  obtain ⟨f, hf⟩ : ∃ f, nb_F = f + 1 + 1 + 1 + 1 := ⟨996, rfl⟩
  have k3 : ¬ (3 : Int32) ≤ 0 ∧ ¬ (3 : Int32) ≤ 0 + 1 ∧ ¬ (3 : Int32) ≤ 0 + 1 + 1 ∧ (3 : Int32) ≤ 0 + 1 + 1 + 1 := by decide
  have b3 : ¬ ((0 : Int32) < 0 ∨ 3 ≤ (0 : Int32).toNatClampNeg) ∧ ¬ ((0 : Int32) + 1 < 0 ∨ 3 ≤ ((0 : Int32) + 1).toNatClampNeg) ∧ ¬ ((0 : Int32) + 1 + 1 < 0 ∨ 3 ≤ ((0 : Int32) + 1 + 1).toNatClampNeg) := by decide
  have n0 : nb_rn (0 : Int32).toNatClampNeg = 114 ∧ nb_rn ((0 : Int32) + 1).toNatClampNeg = 99 ∧ nb_rn ((0 : Int32) + 1 + 1).toNatClampNeg = 100 ∧ nb_yn (0 : Int32).toNatClampNeg = 99 ∧ nb_yn ((0 : Int32) + 1).toNatClampNeg = 98 ∧ nb_yn ((0 : Int32) + 1 + 1).toNatClampNeg = 112 := by decide
  have u01 : u = 0 ∨ u = 1 := by omega
  rcases u01 with rfl | rfl
  · have cl : f_X1_nameOf M r = if r = 114 then some 0 else if r = 99 then some 1 else if r = 100 then some 2 else some 3 := by
      unfold f_X1_nameOf
      rw [hf, f_X1_nameOf_2, if_neg k3.1, f5, if_pos (show nI 0 = 0 from rfl), if_neg b3.1, n0.1, f_X1_nameOf_2, if_neg k3.2.1, f5, if_pos (show nI 0 = 0 from rfl), if_neg b3.2.1, n0.2.1, f_X1_nameOf_2, if_neg k3.2.2.1, f5, if_pos (show nI 0 = 0 from rfl), if_neg b3.2.2, n0.2.2.1, f_X1_nameOf_2, if_pos k3.2.2.2, show (0 : Int32) + 1 = 1 from by decide, show (1 : Int32) + 1 = 2 from by decide, show (2 : Int32) + 1 = 3 from by decide]
    have cr : f_X7_nameOf N r = if r = 114 then 0 else if r = 99 then 1 else if r = 100 then 2 else -1 := by
      unfold f_X7_nameOf
      rw [g15]
      by_cases h1 : r = 114
      · subst h1; decide
      by_cases h2 : r = 99
      · subst h2; decide
      by_cases h3 : r = 100
      · subst h3; decide
      by_cases h4 : r = 98
      · subst h4; decide
      by_cases h5 : r = 112
      · subst h5; decide
      rw [if_neg h4, if_neg h2, if_neg h3, if_neg h5, if_neg h1, if_neg h1, if_neg h2, if_neg h3]
    rw [cl, cr]
    by_cases h1 : r = 114
    · subst h1; exact Or.inl ⟨0, by decide, rfl, rfl, by decide, rfl⟩
    by_cases h2 : r = 99
    · subst h2; exact Or.inl ⟨1, by decide, rfl, rfl, by decide, rfl⟩
    by_cases h3 : r = 100
    · subst h3; exact Or.inl ⟨2, by decide, rfl, rfl, by decide, rfl⟩
    rw [if_neg h1, if_neg h2, if_neg h3, if_neg h1, if_neg h2, if_neg h3]
    exact Or.inr ⟨rfl, rfl⟩
  · have cl : f_X1_nameOf M r = if r = 99 then some 0 else if r = 98 then some 1 else if r = 112 then some 2 else some 3 := by
      unfold f_X1_nameOf
      rw [hf, f_X1_nameOf_2, if_neg k3.1, f5, if_neg (show ¬ nI 1 = 0 by decide), if_neg b3.1, n0.2.2.2.1, f_X1_nameOf_2, if_neg k3.2.1, f5, if_neg (show ¬ nI 1 = 0 by decide), if_neg b3.2.1, n0.2.2.2.2.1, f_X1_nameOf_2, if_neg k3.2.2.1, f5, if_neg (show ¬ nI 1 = 0 by decide), if_neg b3.2.2, n0.2.2.2.2.2, f_X1_nameOf_2, if_pos k3.2.2.2, show (0 : Int32) + 1 = 1 from by decide, show (1 : Int32) + 1 = 2 from by decide, show (2 : Int32) + 1 = 3 from by decide]
    have cr : f_X7_nameOf N r = if r = 99 then 0 else if r = 98 then 1 else if r = 112 then 2 else -1 := by
      unfold f_X7_nameOf
      rw [g15]
      by_cases h1 : r = 99
      · subst h1; decide
      by_cases h2 : r = 98
      · subst h2; decide
      by_cases h3 : r = 112
      · subst h3; decide
      by_cases h4 : r = 100
      · subst h4; decide
      by_cases h5 : r = 114
      · subst h5; decide
      rw [if_neg h2, if_neg h1, if_neg h4, if_neg h3, if_neg h5, if_neg h1, if_neg h2, if_neg h3]
    rw [cl, cr]
    by_cases h1 : r = 99
    · subst h1; exact Or.inl ⟨0, by decide, rfl, rfl, by decide, rfl⟩
    by_cases h2 : r = 98
    · subst h2; exact Or.inl ⟨1, by decide, rfl, rfl, by decide, rfl⟩
    by_cases h3 : r = 112
    · subst h3; exact Or.inl ⟨2, by decide, rfl, rfl, by decide, rfl⟩
    rw [if_neg h1, if_neg h2, if_neg h3, if_neg h1, if_neg h2, if_neg h3]
    exact Or.inr ⟨rfl, rfl⟩
theorem tx_dn {M0 N0 M N : nb_M} {z u a s o : Nat} (E : tx_E M0 N0 z u) (P : tx_P M0 N0 z a s o M N) {r : Int32} (h : f_X1_isDigit r = 1) : f_X7_nameOf N r = -1 := by
  rcases tx_name E P r with ⟨n, _, _, _, _, g⟩ | ⟨_, g⟩
  · rw [h] at g; exact absurd g (by decide)
  · exact g
