/-! long numbers, and a fraction in lowest terms -/
set_option maxHeartbeats 400000
section HSX
def nL (n : Nat) : Int64 := Int64.ofNat n
theorem nL_1 : (1 : Int64) = nL 1 := rfl
theorem hpow' : 2 ^ 0 < 2 ^ 63 := by decide
theorem nL_toInt {n : Nat} (h : n < 2 ^ 63) : (nL n).toInt = n := lg_ofNat_toInt h
theorem nL_add (a b : Nat) : nL a + nL b = nL (a + b) := (Int64.ofNat_add a b).symm
theorem nL_mul (a b : Nat) : nL a * nL b = nL (a * b) := (Int64.ofNat_mul a b).symm
theorem nL_sub {a b : Nat} (h : b ≤ a) : nL a - nL b = nL (a - b) := by
  obtain ⟨c, rfl⟩ : ∃ c, a = c + b := ⟨a - b, by omega⟩
  rw [← nL_add, Int64.add_sub_cancel, Nat.add_sub_cancel]
theorem nL_div {a d : Nat} (ha : a < 2 ^ 63) (h0 : 0 < d) (hd : d < 2 ^ 63) : nL a / nL d = nL (a / d) := by
  apply Int64.toInt_inj.mp
  rw [lg_ldiv_nonneg (by rw [nL_toInt ha]; omega) (by rw [nL_toInt hd]; omega), nL_toInt ha, nL_toInt hd, nL_toInt (Nat.lt_of_le_of_lt (Nat.div_le_self a d) ha)]
  first | rfl | exact (Int.natCast_ediv _ _).symm
theorem nL_rem {a d : Nat} (ha : a < 2 ^ 63) (h0 : 0 < d) (hd : d < 2 ^ 63) : nL a - nL a / nL d * nL d = nL (a % d) := by
  rw [nL_div ha h0 hd, nL_mul, nL_sub (Nat.div_mul_le_self a d)]
  exact congrArg nL (by have := Nat.div_add_mod' a d; omega)
theorem nL_eq {a b : Nat} (ha : a < 2 ^ 63) (hb : b < 2 ^ 63) : nL a = nL b ↔ a = b := by
  constructor
  · intro h
    have := congrArg Int64.toInt h
    rw [nL_toInt ha, nL_toInt hb] at this
    omega
  · intro h; rw [h]
theorem nL_le {a b : Nat} (ha : a < 2 ^ 63) (hb : b < 2 ^ 63) : nL a ≤ nL b ↔ a ≤ b := by
  rw [Int64.le_iff_toInt_le, nL_toInt ha, nL_toInt hb]
  omega
theorem hs_eu (x y : Nat) (w : Int32) (hx : x < 2 ^ 62) (hy : y < 2 ^ 62) : ∀ (k n a b : Nat), b < 2 ^ k → a < 2 ^ 62 → b < 2 ^ 62 → (a ≠ 0 ∨ b ≠ 0) → 2 * k + 1 ≤ n → f_X7_partOf_6 n (nL x) (nL y) w (nL b) (nL a) = some (if w = 0 then nL (x / Nat.gcd b a) else nL (y / Nat.gcd b a)) := by
  have stop : ∀ n a, a < 2 ^ 62 → a ≠ 0 → f_X7_partOf_6 (n + 1) (nL x) (nL y) w (nL 0) (nL a) = some (if w = 0 then nL (x / Nat.gcd 0 a) else nL (y / Nat.gcd 0 a)) := by
    intro n a ha h0
    have hz : ¬ nL a = 0 := fun e => h0 ((nL_eq (b := 0) (by omega) (by decide)).mp e)
    rw [f_X7_partOf_6, if_pos ((lg_cmp_eq (nL 0) 0).mpr rfl), if_neg hz, if_neg hz, Nat.gcd_zero_left, nL_div (by omega) (by omega) (by omega), nL_div (by omega) (by omega) (by omega)]
    split <;> rfl
  have step : ∀ n a b, a < 2 ^ 62 → b < 2 ^ 62 → b ≠ 0 → f_X7_partOf_6 (n + 1) (nL x) (nL y) w (nL b) (nL a) = f_X7_partOf_6 n (nL x) (nL y) w (nL (a % b)) (nL b) := by
    intro n a b ha hb h0
    have hz : ¬ nL b = 0 := fun e => h0 ((nL_eq (b := 0) (by omega) (by decide)).mp e)
    rw [f_X7_partOf_6, if_neg (fun e => hz ((lg_cmp_eq (nL b) 0).mp e)), if_neg hz, hs_nn, nL_rem (by omega) (by omega) (by omega)]
  intro k
  induction k with
  | zero =>
    intro n a b hb ha hb2 h0 hn
    have : b = 0 := by have : 2 ^ 0 = 1 := rfl; omega
    subst this
    obtain ⟨m, rfl⟩ : ∃ m, n = m + 1 := ⟨n - 1, by omega⟩
    exact stop m a ha (by omega)
  | succ k ih =>
    intro n a b hb ha hb2 h0 hn
    have hp : 2 ^ (k + 1) = 2 * 2 ^ k := by rw [Nat.pow_succ]; omega
    obtain ⟨m, rfl⟩ : ∃ m, n = m + 1 + 1 + 1 := ⟨n - 3, by omega⟩
    by_cases hz : b = 0
    · subst hz
      exact stop _ a ha (by omega)
    · rw [step _ a b ha hb2 hz, Nat.gcd_rec b a]
      have hc : a % b < b := Nat.mod_lt _ (by omega)
      by_cases hz2 : a % b = 0
      · rw [hz2]
        exact stop _ b hb2 hz
      · rw [step _ b (a % b) hb2 (by omega) hz2, Nat.gcd_rec (a % b) b]
        have hd : b % (a % b) < a % b := Nat.mod_lt _ (by omega)
        have he : b % (a % b) + (a % b) ≤ b := by
          have h1 := Nat.div_add_mod b (a % b)
          have h2 : 1 ≤ b / (a % b) := (Nat.one_le_div_iff (by omega)).mpr (by omega)
          have h3 : (a % b) * 1 ≤ (a % b) * (b / (a % b)) := Nat.mul_le_mul_left _ h2
          omega
        exact ih (m + 1) (a % b) (b % (a % b)) (by omega) (by omega) (by omega) (by omega) (by omega)
theorem hs_part (x y : Nat) (w : Int32) (hx : x < 2 ^ 62) (hy : y < 2 ^ 62) (h0 : y ≠ 0) : f_X7_partOf (nL x) (nL y) w = some (if w = 0 then nL (x / Nat.gcd x y) else nL (y / Nat.gcd x y)) := by
  unfold f_X7_partOf
  exact hs_eu x y w hx hy 62 nb_F y x hx hy hx (Or.inl h0) (by have := hs_F; omega)
theorem hs_sf : ∀ (n e i : Nat) (p : Nat) (K : nb_M), p < 2 ^ 62 → i + e ≤ 36 → e < n → K.2 38 0 = nL p → K.2 38 1 = nL (2 ^ e) → ∃ K', f_X4_setFraction_13 n K (nI i) = some K' ∧ K'.1 = K.1 ∧ K'.2 38 0 = nL (p / Nat.gcd p (2 ^ e)) ∧ K'.2 38 1 = nL (2 ^ e / Nat.gcd p (2 ^ e)) := by
  intro n
  induction n with
  | zero => intro e i p K _ _ h; omega
  | succ n ih =>
    intro e i p K hp he hn e0 e1
    have hpow : 2 ^ e < 2 ^ 62 := Nat.pow_lt_pow_right (by decide) (by omega)
    have hpos : 0 < 2 ^ e := Nat.pow_pos (by decide)
    rw [f_X4_setFraction_13, e0, e1]
    have one : ∀ q, Nat.gcd p q = 1 → nL p = nL (p / Nat.gcd p q) ∧ nL q = nL (q / Nat.gcd p q) := fun q h => by rw [h, Nat.div_one, Nat.div_one]; exact ⟨rfl, rfl⟩
    by_cases hi : 36 ≤ i
    · have : e = 0 := by omega
      subst this
      rw [if_pos (show (36 : Int32) ≤ nI i from nI_le (a := 36) hi (by omega))]
      obtain ⟨o1, o2⟩ := one (2 ^ 0) (Nat.gcd_one_right p)
      exact ⟨K, rfl, rfl, e0.trans o1, e1.trans o2⟩
    rw [if_neg (show ¬ (36 : Int32) ≤ nI i from nI_ge (b := 36) (by omega) (by decide))]
    match e with
    | 0 =>
      have hl1 : lg_cmp (nL (2 ^ 0)) 1 ≤ 0 := (lg_cmp_le (nL (2 ^ 0)) 1).mpr (by rw [nL_1, nL_le hpow' (by decide)]; exact Nat.le_refl _)
      rw [if_pos hl1]
      obtain ⟨o1, o2⟩ := one (2 ^ 0) (Nat.gcd_one_right p)
      exact ⟨K, rfl, rfl, e0.trans o1, e1.trans o2⟩
    | e + 1 =>
      have h2 : 2 ^ (e + 1) = 2 * 2 ^ e := by rw [Nat.pow_succ]; omega
      have hpe : 0 < 2 ^ e := Nat.pow_pos (by decide)
      rw [if_neg (fun h => by
        have h3 := (lg_cmp_le (nL (2 ^ (e + 1))) 1).mp h
        rw [nL_1, nL_le (by omega) (by decide)] at h3
        omega)]
      have er : nL p - nL p / 2 * 2 = nL (p % 2) := nL_rem (d := 2) (by omega) (by decide) (by decide)
      rw [er]
      by_cases hev : p % 2 = 0
      · rw [if_pos ((lg_cmp_eq (nL (p % 2)) 0).mpr (by rw [hev]; rfl)), hs_nn, hs_nn, nI_1]
        have d0 : nL p / 2 = nL (p / 2) := nL_div (d := 2) (by omega) (by decide) (by decide)
        have d1 : nL (2 ^ (e + 1)) / 2 = nL (2 ^ e) := by
          rw [show (2 : Int64) = nL 2 from rfl, nL_div (by omega) (by decide) (by decide), h2, Nat.mul_div_cancel_left _ (by decide)]
        obtain ⟨K', g1, g2, g3, g4⟩ := ih e (i + 1) (p / 2) (nb_l (nb_l K 38 0 (nL p / 2)) 38 1 ((nb_l K 38 0 (nL p / 2)).2 38 1 / 2)) (by omega) (by omega) (by omega) d0 (by
          have : (nb_l K 38 0 (nL p / 2)).2 38 1 = nL (2 ^ (e + 1)) := e1
          show (nb_l K 38 0 (nL p / 2)).2 38 1 / 2 = _
          rw [this]; exact d1)
        refine ⟨K', g1, g2, ?_, ?_⟩
        · rw [g3]
          obtain ⟨q, rfl⟩ : ∃ q, p = 2 * q := ⟨p / 2, by omega⟩
          rw [h2, Nat.gcd_mul_left, Nat.mul_div_cancel_left _ (by decide), Nat.mul_div_mul_left _ _ (by decide)]
        · rw [g4]
          obtain ⟨q, rfl⟩ : ∃ q, p = 2 * q := ⟨p / 2, by omega⟩
          rw [h2, Nat.gcd_mul_left, Nat.mul_div_cancel_left _ (by decide), Nat.mul_div_mul_left _ _ (by decide)]
      · rw [if_neg (fun h => hev ((nL_eq (b := 0) (by omega) (by decide)).mp ((lg_cmp_eq (nL (p % 2)) 0).mp h)))]
        have hg : Nat.gcd p (2 ^ (e + 1)) = 1 := by
          have h1 : Nat.Coprime p 2 := by
            show Nat.gcd p 2 = 1
            rw [Nat.gcd_comm, Nat.gcd_rec, show p % 2 = 1 by omega]
            rfl
          exact Nat.Coprime.pow_right (e + 1) h1
        obtain ⟨o1, o2⟩ := one _ hg
        exact ⟨K, rfl, rfl, e0.trans o1, e1.trans o2⟩
end HSX
