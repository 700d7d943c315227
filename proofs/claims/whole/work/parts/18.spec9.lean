/-! the calls: days by draws, what would be -/
section HSN
theorem hs_dbr {M N : nb_M} (R : hs_Rel M N) {d : Nat} (hd : d < 9999) (ed : M.1 1 0 = nI d) : ∃ v M' N', f_X0_dayByDraws M = some (v, M') ∧ f_X7_drawn N = some (v, N') ∧ hs_Rel M' N' ∧ M'.1 1 0 = nI (d + 1) := by
  unfold f_X0_dayByDraws f_X7_drawn
  exact hs_dbd nb_F 0 0 M N R (by omega) (by have := hs_F; omega) d hd ed
theorem hs_loo {m : Nat} (hm : m ≤ 30) : ∀ (n i : Nat) (acc : Int32) (M N : nb_M), hs_Rel M N → i ≤ m → m - i < n → ∀ d, d + (m - i) ≤ 9999 → M.1 1 0 = nI d → hs_S (f_X6_loose_42 n M (nI m) acc (nI i)) (f_X7_loose_42 n N (nI m) acc (nI i)) := by
  intro n
  induction n with
  | zero => intro i acc M N _ _ h; omega
  | succ n ih =>
    intro i acc M N R hi hn d hd ed
    rw [f_X6_loose_42, f_X7_loose_42]
    by_cases hl : i < m
    · rw [if_neg (nI_ge hl (by omega)), if_neg (nI_ge hl (by omega))]
      obtain ⟨v, M', N', g1, g2, g3, g4⟩ := hs_dbr R (d := d) (by omega) ed
      rw [g1, g2]
      simp only [nb_p, nb_n]
      rw [nI_1]
      exact ih (i + 1) (acc + v) M' N' g3 (by omega) (by omega) (d + 1) (by omega) g4
    · rw [if_pos (nI_le (by omega) (by omega)), if_pos (nI_le (by omega) (by omega))]
      exact ⟨_, _, _, rfl, rfl, R⟩
variable {M N : nb_M}
theorem s_loose (R : hs_Rel M N) (p0 : Int32) : hs_S (f_X6_loose M p0) (f_X7_loose N p0) := by
  unfold f_X6_loose f_X7_loose
  obtain ⟨d, hd, e1, e2⟩ := hs_dy R
  by_cases h1 : p0 < 1
  · have c : f_X7_in p0 1 30 = 0 := by rw [hs_in]; exact if_pos (Or.inl h1)
    rw [if_pos h1, c, if_pos rfl]; exact hs_e1 R
  · rw [if_neg h1]
    by_cases h2 : p0 ≤ 30
    · have c : f_X7_in p0 1 30 = 1 := by rw [hs_in]; exact if_neg (fun w => w.elim h1 (fun w => absurd h2 (Int32.not_le.mpr w)))
      rw [if_pos h2, c, if_neg hs_10]
      obtain ⟨m, hm, e⟩ := nI_of2 (x := p0) (M := 30) (n := 30) (by decide) (fun w => h1 (Int32.lt_trans w (by decide))) h2
      subst e
      rw [hs_c0, e1, e2, nI_add]
      by_cases h3 : d + m ≤ 9999
      · rw [if_pos (show nI (d + m) ≤ (9999 : Int32) from nI_le (b := 9999) h3 (by decide)), if_pos (show nI (d + m) ≤ (9999 : Int32) from nI_le (b := 9999) h3 (by decide))]
        exact hs_loo hm nb_F 0 0 M N R (by omega) (by have := hs_F; omega) d (by omega) e1
      · rw [if_neg (show ¬ nI (d + m) ≤ (9999 : Int32) from nI_ge (a := 9999) (by omega) (by omega)), if_neg (show ¬ nI (d + m) ≤ (9999 : Int32) from nI_ge (a := 9999) (by omega) (by omega))]
        exact hs_e3 R
    · have c : f_X7_in p0 1 30 = 0 := by rw [hs_in]; exact if_pos (Or.inr (Int32.not_le.mp h2))
      rw [if_neg h2, c, if_pos rfl]; exact hs_e1 R
theorem hs_fst (R : hs_Rel M N) {a : Nat} (ha : a < 9) : ∀ (n i : Nat), i ≤ 61 → 61 - i < n → ∃ v, f_X4_firstOf_2 n M (nI a) (nI i) = some v ∧ ((0 ≤ v ∧ f_X7_counts_17 n N (nI a) (nI i) = some (v, N)) ∨ (¬ 0 ≤ v ∧ f_X7_counts_17 n N (nI a) (nI i) = nb_p (f_X7_error N (-1000000002)) fun r M => some (r, M))) := by
  intro n
  induction n with
  | zero => intro i _ h; omega
  | succ n ih =>
    intro i hi hn
    rw [f_X4_firstOf_2, f_X7_counts_17]
    by_cases hl : i ≤ 60
    · have e0 : M.1 1 0 = hs_ho 1 M 0 0 := rfl
      rw [if_neg (show ¬ (60 : Int32) < nI i from nI_nlt (a := 60) hl (by decide)), if_neg (show ¬ (60 : Int32) < nI i from nI_nlt (a := 60) hl (by decide)), hs_cco R.2.1 ha, hs_c0, hs_r0 R.1, hs_rco R.1 R.2.1 ha, e0]
      simp only [nb_o]
      by_cases z : hs_co (hs_ho 1 M) a (hs_ho 1 M 0 0 + nI i) = 0
      · rw [if_pos z, if_pos z, nI_1]
        exact ih (i + 1) (by omega) (by omega)
      · rw [if_neg z, if_neg z]
        exact ⟨_, rfl, Or.inl ⟨nI_pos' (by omega), rfl⟩⟩
    · rw [if_pos (show (60 : Int32) < nI i from nI_lt (a := 60) (by omega) (by omega)), if_pos (show (60 : Int32) < nI i from nI_lt (a := 60) (by omega) (by omega))]
      exact ⟨_, rfl, Or.inr ⟨by decide, rfl⟩⟩
theorem s_counts (R : hs_Rel M N) (p0 : Int32) : hs_S (f_X6_counts M p0) (f_X7_counts N p0) := by
  unfold f_X6_counts f_X7_counts
  rcases hs_pie R p0 with ⟨c1, d1, a, ha, -, rfl⟩ | ⟨c1, d1⟩
  · rw [c1, d1, if_neg hs_10, if_neg hs_10]
    obtain ⟨v, g1, g2⟩ := hs_fst R ha nb_F 0 (by omega) (by have := hs_F; omega)
    have g1' : f_X4_firstOf M (nI a) = some v := g1
    rw [g1']
    simp only [nb_o]
    rcases g2 with ⟨g2, g3⟩ | ⟨g2, g3⟩
    · have g3' : f_X7_counts_17 nb_F N (nI a) 0 = _ := g3
      rw [if_pos g2, g3']; exact ⟨_, _, _, rfl, rfl, R⟩
    · have g3' : f_X7_counts_17 nb_F N (nI a) 0 = _ := g3
      rw [if_neg g2, g3']; exact hs_e2 R
  · rw [c1, d1, if_pos rfl, if_pos rfl]; exact hs_e1 R
/-- in whose hands it is least, of the first so many -/
def hs_bl (h : Nat → Nat → Int32) (a : Nat) : Nat → Nat
  | 0 => 0
  | i + 1 => if hs_rk h a (h 1 (hs_bl h a i)) ≤ hs_rk h a (h 1 (i + 1)) then hs_bl h a i else i + 1
theorem hs_bl_le (h : Nat → Nat → Int32) (a : Nat) : ∀ i, hs_bl h a i ≤ i
  | 0 => Nat.le_refl _
  | i + 1 => by
    have := hs_bl_le h a i
    unfold hs_bl
    split <;> omega
theorem hs_csaf (R : hs_Rel M N) {a q : Nat} (ha : a < 9) (hq : q ≤ 5) (eq : hs_ho 1 M 0 2 = nI q) : ∀ (n i : Nat) (K : nb_M), hs_Sc M K → i + 1 ≤ q → q - (i + 1) < n → ∃ K', f_X4_safestFor_18 n K (nI a) (nI (hs_bl (hs_ho 1 M) a i)) (hs_rk (hs_ho 1 M) a (hs_ho 1 M 1 (hs_bl (hs_ho 1 M) a i))) (nI (i + 1)) = some (nI (hs_bl (hs_ho 1 M) a (q - 1)), K') ∧ hs_Sc M K' := by
  intro n
  induction n with
  | zero => intro i K _ _ h; omega
  | succ n ih =>
    intro i K hK hi hn
    have RK := R.sc hK (hs_Sd.rf N)
    have e1 : K.1 1 2 = nI q := by rw [hK.1 1 (by omega) (by omega)]; exact eq
    have e2 : K.1 2 = hs_ho 1 M 1 := hK.1 2 (by omega) (by omega)
    rw [f_X4_safestFor_18, e1]
    by_cases hl : i + 1 < q
    · rw [if_neg (nI_ge hl (by omega)), if_neg (nI_in (c := i + 1) (N := 5) (by omega) (by decide)), nI_clamp (show i + 1 < 2 ^ 31 by omega), e2]
      obtain ⟨K', g1, g2⟩ := hs_crk RK.1 RK.2.1 ha (hs_ho 1 M 1 (i + 1))
      rw [g1, hK.ho]
      simp only [nb_p]
      rw [nI_1]
      have step := ih (i + 1) K' (hK.tr g2) (by omega) (by omega)
      have eb : hs_bl (hs_ho 1 M) a (i + 1) = if hs_rk (hs_ho 1 M) a (hs_ho 1 M 1 (hs_bl (hs_ho 1 M) a i)) ≤ hs_rk (hs_ho 1 M) a (hs_ho 1 M 1 (i + 1)) then hs_bl (hs_ho 1 M) a i else i + 1 := rfl
      rw [eb] at step
      by_cases z : hs_rk (hs_ho 1 M) a (hs_ho 1 M 1 (hs_bl (hs_ho 1 M) a i)) ≤ hs_rk (hs_ho 1 M) a (hs_ho 1 M 1 (i + 1))
      · rw [if_pos z] at step ⊢
        exact step
      · rw [if_neg z] at step ⊢
        exact step
    · have : q - 1 = i := by omega
      rw [if_pos (nI_le (by omega) (by omega)), this]
      exact ⟨K, rfl, hK⟩
theorem hs_rsaf (R : hs_Rel M N) {a q : Nat} (ha : a < 9) (hq : q ≤ 5) (eq : hs_ho 1 M 0 2 = nI q) (w : Int32) : ∀ (n i : Nat) (K : nb_M), hs_Sd N K → i + 1 ≤ q → q - (i + 1) < n → ∃ K', f_X7_safest_33 n K (nI a) w (nI (hs_bl (hs_ho 1 M) a i)) (hs_rk (hs_ho 1 M) a (hs_ho 1 M 1 (hs_bl (hs_ho 1 M) a i))) (nI (i + 1)) = some (if w = 0 then nI (hs_bl (hs_ho 1 M) a (q - 1)) else hs_rk (hs_ho 1 M) a (hs_ho 1 M 1 (hs_bl (hs_ho 1 M) a (q - 1))), K') ∧ hs_Sd N K' := by
  intro n
  induction n with
  | zero => intro i K _ _ h; omega
  | succ n ih =>
    intro i K hK hi hn
    have RK := R.sc (hs_Sc.rf M) hK
    have e1 : K.1 1 3 = nI q := (hs_r3 RK.1).trans eq
    rw [f_X7_safest_33, hs_c3, e1]
    by_cases hl : i + 1 < q
    · rw [if_neg (nI_ge hl (by omega))]
      obtain ⟨K', g1, g2⟩ := hs_rri (i := i + 1) RK.1 RK.2.1 ha (by omega)
      rw [g1]
      simp only [nb_p]
      rw [nI_1]
      have step := ih (i + 1) K' (hK.tr g2) (by omega) (by omega)
      have eb : hs_bl (hs_ho 1 M) a (i + 1) = if hs_rk (hs_ho 1 M) a (hs_ho 1 M 1 (hs_bl (hs_ho 1 M) a i)) ≤ hs_rk (hs_ho 1 M) a (hs_ho 1 M 1 (i + 1)) then hs_bl (hs_ho 1 M) a i else i + 1 := rfl
      rw [eb] at step
      by_cases z : hs_rk (hs_ho 1 M) a (hs_ho 1 M 1 (hs_bl (hs_ho 1 M) a i)) ≤ hs_rk (hs_ho 1 M) a (hs_ho 1 M 1 (i + 1))
      · rw [if_pos z] at step
        rw [if_pos z, if_pos z]
        exact step
      · rw [if_neg z] at step
        rw [if_neg z, if_neg z]
        exact step
    · have : q - 1 = i := by omega
      rw [if_pos (nI_le (by omega) (by omega)), this]
      refine ⟨K, ?_, hK⟩
      by_cases z : w = 0
      · rw [if_pos z, if_pos z]
      · rw [if_neg z, if_neg z]
theorem s_safest (R : hs_Rel M N) (p0 p1 : Int32) : hs_S (f_X6_safest M p0 p1) (f_X7_safest N p0 p1) := by
  unfold f_X6_safest f_X7_safest
  rcases hs_pie R p0 with ⟨c1, d1, a, ha, hal, rfl⟩ | ⟨c1, d1⟩
  · rw [c1, d1, if_neg hs_10, if_neg hs_10]
    rcases hs_wi p1 (b := 1) (by decide) (B := 1) rfl with ⟨c2, d2, t, ht, rfl⟩ | ⟨c2, d2⟩
    · rw [c2, d2, if_neg hs_10, if_neg hs_10]
      obtain ⟨q, hq, e⟩ := hs_np R.2.1
      have hq1 : 1 ≤ q := by
        obtain ⟨o, ho, eo⟩ := hs_own R ha
        have := R.2.1.2 a ha hal
        rw [eo, e] at this
        have := (nI_ltI (by omega) (by omega)).mp this
        omega
      have e3 : N.1 1 3 = nI q := (hs_r3 R.1).trans e
      unfold f_X4_safestFor
      obtain ⟨K, g1, g2⟩ := hs_crk R.1 R.2.1 ha (hs_ho 1 M 1 0)
      have g1' : f_X0_riskBy M (nI a) (M.1 2 0) = _ := g1
      rw [hs_c0, g1']
      simp only [nb_p]
      obtain ⟨K2, g3, g4⟩ := hs_csaf R ha hq e nb_F 0 K g2 (by omega) (by have := hs_F; omega)
      have g3' : f_X4_safestFor_18 nb_F K (nI a) 0 (hs_rk (hs_ho 1 M) a (hs_ho 1 M 1 0)) 1 = _ := g3
      rw [g3']
      simp only
      -- the reference, its first turn
      have hF : nb_F = 999 + 1 := rfl
      obtain ⟨L, k1, k2⟩ := hs_rri (i := 0) R.1 R.2.1 ha (by omega)
      have k1' : f_X7_riskOf N (nI a) 0 = _ := k1
      obtain ⟨L2, k3, k4⟩ := hs_rsaf R ha hq e (nI t) 999 0 L k2 (by omega) (by omega)
      have k3' : f_X7_safest_33 999 L (nI a) (nI t) 0 (hs_rk (hs_ho 1 M) a (hs_ho 1 M 1 0)) 1 = _ := k3
      have first : f_X7_safest_33 nb_F N (nI a) (nI t) 0 17 0 = f_X7_safest_33 999 L (nI a) (nI t) 0 (hs_rk (hs_ho 1 M) a (hs_ho 1 M 1 0)) 1 := by
        rw [hF, f_X7_safest_33, hs_c3, e3, if_neg (show ¬ nI q ≤ (0 : Int32) from nI_nle (by omega) (by omega)), k1']
        have h17 : ¬ (17 : Int32) ≤ hs_rk (hs_ho 1 M) a (hs_ho 1 M 1 0) := by
          intro w
          exact (hs_rk17 (hs_ho 1 M) a (hs_ho 1 M 1 0)).1 (Int32.lt_of_lt_of_le (by decide) w)
        simp only [nb_p]
        rw [if_neg h17, if_neg h17]
        rfl
      rw [first, k3']
      by_cases zt : nI t = 0
      · rw [if_pos zt, if_pos zt]
        exact ⟨_, _, _, rfl, rfl, R.sc g4 k4⟩
      · rw [if_neg zt, if_neg zt]
        have hb := hs_bl_le (hs_ho 1 M) a (q - 1)
        have RK := R.sc g4 k4
        obtain ⟨K3, m1, m2⟩ := hs_cri (i := hs_bl (hs_ho 1 M) a (q - 1)) RK.1 RK.2.1 ha (by omega)
        rw [m1, g4.ho]
        exact ⟨_, _, _, rfl, rfl, R.sc (g4.tr m2) k4⟩
    · rw [c2, d2, if_pos rfl, if_pos rfl]; exact hs_e1 R
  · rw [c1, d1, if_pos rfl, if_pos rfl]; exact hs_e1 R
/-! what is left, as a set -/
def hs_le (h : Nat → Nat → Int32) (i a : Nat) : Prop := h 6 a = nI i ∧ h 7 a = 0 ∧ hs_co h a (h 0 0) ≠ 0
theorem hs_or : ∀ a, a < 9 → ∀ s, s < 2 ^ a → nI s ||| ((1 : Int32) <<< (nI a &&& 31)) = nI (s + 2 ^ a) := by decide +kernel
theorem hs_or0 (x : Int32) : x ||| 0 = x := Int32.or_zero
theorem hs_clf (R : hs_Rel M N) {i q : Nat} (hq : q ≤ 9) (e : hs_ho 1 M 0 6 = nI q) : ∀ (n a s : Nat), a ≤ q → s < 2 ^ a → q - a < n → ∃ s', s' < 2 ^ q ∧ f_X4_leftOf_5 n M (nI i) (nI s) (nI a) = some (nI s') ∧ f_X7_leftOf_4 n N (nI i) (nI s) (nI a) = some (nI s') := by
  intro n
  induction n with
  | zero => intro a s _ _ h; omega
  | succ n ih =>
    intro a s ha hs hn
    have e1 : M.1 1 6 = nI q := e
    have e2 : N.1 1 2 = nI q := (hs_r2 R.1).trans e
    rw [f_X4_leftOf_5, f_X7_leftOf_4, hs_c2, e1, e2]
    by_cases hl : a < q
    · have h9 : a < 9 := by omega
      have hp : 2 ^ (a + 1) = 2 ^ a + 2 ^ a := by rw [Nat.pow_succ]; omega
      have s0 := ih (a + 1) s (by omega) (by omega) (by omega)
      have s1 := ih (a + 1) (s + 2 ^ a) (by omega) (by omega) (by omega)
      have x6 : hs_ho 1 M 6 a = M.1 7 a := rfl
      have x7 : hs_ho 1 M 7 a = M.1 8 a := rfl
      have x0 : hs_ho 1 M 0 0 = M.1 1 0 := rfl
      unfold f_X4_isLeft
      rw [if_neg (nI_ge hl (by omega)), if_neg (nI_ge hl (by omega)), if_neg (nI_in (c := a) (N := 9) h9 (by decide)), nI_clamp (show a < 2 ^ 31 by omega), hs_of2 R.1 h9, hs_of3 R.1 h9, hs_cco R.2.1 h9, hs_rdc R.1 R.2.1 h9, x6, x7, x0]
      simp only [nb_o, nb_n, hs_or0]
      rw [hs_or a h9 s hs, nI_1]
      by_cases z1 : M.1 7 a = nI i
      · rw [if_pos z1, if_pos z1]
        by_cases z2 : M.1 8 a = 0
        · rw [if_pos z2, if_pos z2]
          by_cases z3 : hs_co (hs_ho 1 M) a (M.1 1 0) = 0
          · rw [if_pos z3, if_pos z3]
            simp only [if_pos]
            exact s0
          · rw [if_neg z3, if_neg z3]
            simp only [if_neg hs_10]
            exact s1
        · rw [if_neg z2, if_neg z2]
          simp only [if_pos]
          exact s0
      · rw [if_neg z1, if_neg z1]
        simp only [if_pos]
        exact s0
    · have : a = q := by omega
      subst this
      rw [if_pos (nI_le (Nat.le_refl _) (by omega)), if_pos (nI_le (Nat.le_refl _) (by omega))]
      exact ⟨s, hs, rfl, rfl⟩
theorem hs_lft (R : hs_Rel M N) (i : Nat) : ∃ s, s < 512 ∧ f_X4_leftOf M (nI i) = some (nI s) ∧ f_X7_leftOf N (nI i) = some (nI s) := by
  obtain ⟨q, hq, e⟩ := hs_nq R.2.1
  obtain ⟨s, h1, h2, h3⟩ := hs_clf R (i := i) hq e nb_F 0 0 (by omega) (by decide) (by have := hs_F; omega)
  exact ⟨s, Nat.lt_of_lt_of_le h1 (Nat.pow_le_pow_right (by decide) hq), h2, h3⟩
theorem hs_bits : ∀ s, s < 512 → f_X7_bits (nI s) = some (f_X6_bitsIn (nI s)) := by decide +kernel
theorem s_left (R : hs_Rel M N) (p0 p1 : Int32) : hs_S (f_X6_left M p0 p1) (f_X7_left N p0 p1) := by
  unfold f_X6_left f_X7_left
  rcases hs_per R p0 with ⟨c1, d1, i, hi, -, rfl⟩ | ⟨c1, d1⟩
  · rw [c1, d1, if_neg hs_10, if_neg hs_10]
    obtain ⟨s, hs, g1, g2⟩ := hs_lft R i
    rw [g1, g2]
    simp only [nb_o, hs_bits s hs]
    by_cases q0 : p1 = 0
    · subst q0
      rw [if_pos rfl, show f_X7_in 0 0 2 = 1 from by decide, if_neg hs_10, if_neg (by decide), if_pos rfl]
      exact ⟨_, _, _, rfl, rfl, R⟩
    rw [if_neg q0]
    by_cases q1 : p1 = 1
    · subst q1
      rw [if_pos rfl, show f_X7_in 1 0 2 = 1 from by decide, if_neg hs_10, if_neg (by decide), if_neg hs_10]
      exact ⟨_, _, _, rfl, rfl, R⟩
    rw [if_neg q1]
    by_cases q2 : p1 = 2
    · subst q2
      rw [if_pos rfl, show f_X7_in 2 0 2 = 1 from by decide, if_neg hs_10, if_pos rfl, hs_cdue hi, hs_rdue R.1 hi]
      exact ⟨_, _, _, rfl, rfl, R⟩
    rw [if_neg q2]
    have : f_X7_in p1 0 2 = 0 := by
      rcases hs_wi p1 (b := 2) (by decide) (B := 2) rfl with ⟨-, -, k, hk, e⟩ | ⟨-, d⟩
      · exfalso
        subst e
        match k, hk with
        | 0, _ => exact q0 rfl
        | 1, _ => exact q1 rfl
        | 2, _ => exact q2 rfl
      · exact d
    rw [this, if_pos rfl]
    exact hs_e1 R
  · rw [c1, d1, if_pos rfl, if_pos rfl]; exact hs_e1 R
end HSN
