section HSR2
theorem hs_bg2 : ∀ (n i : Nat) (K : nb_M), i ≤ 24 → 24 - i < n → ∃ K', f_X2_begin_47_12 n K (nI i) = some K' ∧ (∀ c, c ≠ 48 → K'.1 c = K.1 c) ∧ (∀ j, i ≤ j → j < 24 → K'.1 48 j = 0) ∧ (∀ j, j < i → K'.1 48 j = K.1 48 j) := by
  intro n
  induction n with
  | zero => intro i K _ h; omega
  | succ n ih =>
    intro i K hi hn
    rw [f_X2_begin_47_12]
    by_cases hl : i < 24
    · rw [if_neg (show ¬ (24 : Int32) ≤ nI i from nI_ge (b := 24) hl (by decide)), if_neg (nI_in hl (by decide)), nI_clamp (show i < 2 ^ 31 by omega)]
      simp only [nb_n]
      rw [nI_1]
      obtain ⟨K', g1, g2, g3, g4⟩ := ih (i + 1) (nb_i K 48 i 0) (by omega) (by omega)
      refine ⟨K', g1, fun c hc => ?_, fun j h1 h2 => ?_, fun j h1 => ?_⟩
      · rw [g2 c hc]; simp only [nb_i, nb_r, if_neg hc]
      · by_cases e : j = i
        · subst e
          rw [g4 j (by omega)]
          show upd (K.1 48) j 0 j = _
          rw [hs_upd_s]
        · exact g3 j (by omega) h2
      · rw [g4 j (by omega)]
        show upd (K.1 48) i 0 j = _
        rw [hs_upd_n (by omega)]
    · have : i = 24 := by omega
      subst this
      rw [if_pos (show (24 : Int32) ≤ nI 24 from by decide)]
      exact ⟨K, rfl, fun _ _ => rfl, fun j h1 h2 => by omega, fun _ _ => rfl⟩
variable {M N : nb_M}
theorem hs_set2 (R : hs_Rel M N) {w z : Nat} (hw : w = 0 ∨ w = 8 ∨ w = 16 ∨ w = 32) (hz : z ≤ 24) (h0 : w = 0 → z = 0) {x : Int32} (hx : w = 0 ∨ x = nI z) : hs_S (nb_o (f_X2_begin_47 M (nI w) (nI z)) fun M => some (1, M)) (f_X7_sheet_68 N (nI 2) (nI w) x) := by
  obtain ⟨N', g1, g2, g3, g4, g5, g6, g7, g8⟩ := hs_rs68 (N := N) (t := 2) (by decide) h0 (by omega) hx
  obtain ⟨M', k1, k2, k3, -⟩ := hs_bg2 nb_F 0 (nb_i (nb_i M 47 1 (nI w)) 47 2 (nI z)) (by omega) (by have := hs_F; omega)
  have k1' : f_X2_begin_47 M (nI w) (nI z) = some M' := by
    unfold f_X2_begin_47
    rw [hs_nn, hs_nn]
    exact k1
  rw [g1, k1']
  refine ⟨_, _, _, rfl, rfl, R.sheet (t := 2) (by decide) (fun k h1 h2 => ?_) g2 g3 g4 g5 ⟨w, z, hw, hz, h0, ?_, ?_, g6, g7, fun k hk => (g8 k hk).trans (k3 k (by omega) hk).symm⟩⟩
  · rw [k2 k h2, hs_gi h1, hs_gi h1]
  · rw [k2 47 (by omega)]; rfl
  · rw [k2 47 (by omega)]; rfl
theorem hs_mis2 (R : hs_Rel M N) : (f_X2_isMissing_47 M = 1 ∧ f_X7_notThere N (nI 2) = some (-1000000002)) ∨ (f_X2_isMissing_47 M = 0 ∧ f_X7_notThere N (nI 2) = some 0) := by
  obtain ⟨w, z, hw, hz, hwz, e1, e2, e3, e4, e5⟩ := (R.2.2.2.2.2.2.2.2.1 : hs_SH (M.1 47) (M.1 48) 2 N)
  unfold f_X2_isMissing_47 f_X7_notThere f_X7_isSheet
  rw [show f_X7_in (nI 2) 0 3 = 1 from by decide, if_neg hs_10, if_neg (nI_in (c := 2) (N := 4) (by decide) (by decide)), nI_clamp (show 2 < 2 ^ 31 by omega), e3, e1]
  by_cases y : w = 0
  · subst y
    rw [if_pos (show nI 0 = 0 from rfl), if_pos (show nI 0 = 0 from rfl)]
    exact Or.inl ⟨rfl, rfl⟩
  · have y' : ¬ nI w = 0 := hs_ne (b := 0) y (by omega) (by decide)
    rw [if_neg y', if_neg y']
    exact Or.inr ⟨rfl, rfl⟩
theorem hs_rSH2 (R : hs_Rel M N) : hs_SH (M.1 47) (M.1 48) 2 N := R.2.2.2.2.2.2.2.2.1
theorem hs_tk2 {z q : Nat} (hz : z ≤ 24) (hq : q ≤ 5) : ∀ (n i : Nat) (M N : nb_M), hs_Rel M N → i ≤ z → i ≤ q → M.1 47 2 = nI z → M.1 1 2 = nI q → z - i < n → hs_S (f_X0_takeCares_1_47_2 n M (nI i)) (f_X7_cares_18 n N (nI 2) (nI i)) := by
  intro n
  induction n with
  | zero => intro i M N _ _ _ _ _ h; omega
  | succ n ih =>
    intro i M N R hi hiq ez eq hn
    obtain ⟨w, z', -, -, -, -, e2, -, e4, e5⟩ := hs_rSH2 R
    have e5' : N.1 5 2 = nI z := e4.trans (e2.symm.trans ez)
    have er : N.1 1 3 = nI q := (hs_r3 R.1).trans eq
    rw [f_X0_takeCares_1_47_2, f_X7_cares_18, if_neg (nI_in (c := 2) (N := 4) (by decide) (by decide)), nI_clamp (show 2 < 2 ^ 31 by omega), ez, eq, e5', hs_c3, er]
    by_cases hl : i < z
    · rw [if_neg (nI_ge hl (by omega)), if_neg (nI_ge hl (by omega))]
      by_cases hk : i < q
      · have x0 : ((24 : Int32) * nI 2) + nI i = nI (24 * 2 + i) := by rw [show (24 : Int32) = nI 24 from rfl, pk_mul, nI_add]
        have x1 : (6 : Int32) + ((3 : Int32) * nI i) = nI (6 + 3 * i) := by rw [show (6 : Int32) = nI 6 from rfl, show (3 : Int32) = nI 3 from rfl, pk_mul, nI_add]
        rw [if_neg (nI_ge hk (by omega)), if_neg (nI_ge hk (by omega)), x0, x1, if_neg (nI_in (show i < 24 by omega) (by decide)), if_neg (nI_in (show 24 * 2 + i < 96 by omega) (by decide)), if_neg (nI_in (show i < 5 by omega) (by decide)), nI_clamp (show i < 2 ^ 31 by omega), nI_clamp (show 24 * 2 + i < 2 ^ 31 by omega), e5 i (by omega)]
        rcases hs_wi (M.1 48 i) (b := 9) (by decide) (B := 9) rfl with ⟨c1, d1, v, hv, ev⟩ | ⟨c1, d1⟩
        · rw [c1, d1, if_neg hs_10, if_neg hs_10, if_neg (nI_in (show 6 + 3 * i < 383 by omega) (by decide)), nI_clamp (show 6 + 3 * i < 2 ^ 31 by omega), ev, nI_1]
          simp only [nb_n]
          refine ih (i + 1) _ _ ?_ (by omega) (by omega) ez eq (by omega)
          refine R.house (hs_Oc.i (by omega) (by omega)) hs_Od.i ?_ ?_
          · rw [hs_ho1 (k := 1) rfl (by decide) (by decide) (by decide)]
            exact R.1.s1 (by omega) _
          · rw [hs_ho1 (k := 1) rfl (by decide) (by decide) (by decide)]
            exact R.2.1.s (by simp [hs_bd]; omega) (by decide) (by simp)
        · rw [c1, d1, if_pos rfl, if_pos rfl]
          exact ⟨_, _, _, rfl, rfl, R⟩
      · rw [if_pos (nI_le (by omega) (by omega)), if_pos (nI_le (by omega) (by omega))]
        exact ⟨_, _, _, rfl, rfl, R⟩
    · rw [if_pos (nI_le (by omega) (by omega)), if_pos (nI_le (by omega) (by omega))]
      exact ⟨_, _, _, rfl, rfl, R⟩
theorem hs_rst2 {z q : Nat} (hz : z ≤ 24) (hq : q ≤ 9) (R : hs_Rel M N) (ez : M.1 47 2 = nI z) (eq : M.1 1 6 = nI q) : ∀ (n i : Nat), i ≤ z → i ≤ q → z - i < n → ∃ r, f_X0_rightStates_1_47_2 n M (nI i) = some r ∧ f_X7_judge_18 n N (nI 2) (nI i) = some (r, N) := by
  intro n
  induction n with
  | zero => intro i _ _ h; omega
  | succ n ih =>
    intro i hi hiq hn
    obtain ⟨w, z', -, -, -, -, e2, -, e4, e5⟩ := hs_rSH2 R
    have e5' : N.1 5 2 = nI z := e4.trans (e2.symm.trans ez)
    have er : N.1 1 2 = nI q := (hs_r2 R.1).trans eq
    rw [f_X0_rightStates_1_47_2, f_X7_judge_18, if_neg (nI_in (c := 2) (N := 4) (by decide) (by decide)), nI_clamp (show 2 < 2 ^ 31 by omega), ez, eq, e5', hs_c2, er]
    by_cases hl : i < z
    · rw [if_neg (nI_ge hl (by omega)), if_neg (nI_ge hl (by omega))]
      by_cases hk : i < q
      · have x0 : ((24 : Int32) * nI 2) + nI i = nI (24 * 2 + i) := by rw [show (24 : Int32) = nI 24 from rfl, pk_mul, nI_add]
        have x7 : hs_ho 1 M 7 i = M.1 8 i := rfl
        rw [if_neg (nI_ge hk (by omega)), if_neg (nI_ge hk (by omega)), x0, if_neg (nI_in (show i < 24 by omega) (by decide)), if_neg (nI_in (show i < 9 by omega) (by decide)), if_neg (nI_in (show 24 * 2 + i < 96 by omega) (by decide)), nI_clamp (show i < 2 ^ 31 by omega), nI_clamp (show 24 * 2 + i < 2 ^ 31 by omega), e5 i (by omega), hs_of3 R.1 (by omega), x7]
        simp only [nb_o]
        by_cases y : M.1 48 i = M.1 8 i
        · rw [if_pos y, if_pos y, nI_1]
          exact ih (i + 1) (by omega) (by omega) (by omega)
        · rw [if_neg y, if_neg y]
          exact ⟨_, rfl, rfl⟩
      · rw [if_pos (nI_le (by omega) (by omega)), if_pos (nI_le (by omega) (by omega))]
        exact ⟨_, rfl, rfl⟩
    · rw [if_pos (nI_le (by omega) (by omega)), if_pos (nI_le (by omega) (by omega))]
      exact ⟨_, rfl, rfl⟩
theorem hs_cares2 (R : hs_Rel M N) : hs_S (if f_X2_isMissing_47 M = 0 then nb_p (f_X0_takeCares_1_47 M) fun r M => some (r, M) else nb_p (f_X6_fail M 2) fun r M => some (r, M)) (nb_o (f_X7_notThere N (nI 2)) fun r_1 => if r_1 = 0 then f_X7_cares_18 nb_F N (nI 2) 0 else nb_p (f_X7_error N r_1) fun r M => some (r, M)) := by
  rcases hs_mis2 R with ⟨c, d⟩ | ⟨c, d⟩
  · rw [c, d, if_neg hs_10]
    simp only [nb_o]
    rw [if_neg (by decide)]
    exact hs_e2 R
  · rw [c, d, if_pos rfl]
    simp only [nb_o, ↓reduceIte]
    obtain ⟨q, hq, eq⟩ := hs_np R.2.1
    obtain ⟨w, z, -, hz, -, -, e2, -, -, -⟩ := hs_rSH2 R
    obtain ⟨v, M', N', g1, g2, g3⟩ := hs_tk2 hz hq nb_F 0 M N R (by omega) (by omega) e2 eq (by have := hs_F; omega)
    have g1' : f_X0_takeCares_1_47 M = _ := g1
    have g2' : f_X7_cares_18 nb_F N (nI 2) 0 = _ := g2
    rw [g1', g2']
    exact ⟨_, _, _, rfl, rfl, g3⟩
theorem hs_judge2 (R : hs_Rel M N) : hs_S (if f_X2_isMissing_47 M = 0 then nb_o (f_X0_rightStates_1_47 M) fun r => some (r, M) else nb_p (f_X6_fail M 2) fun r M => some (r, M)) (nb_o (f_X7_notThere N (nI 2)) fun r_1 => if r_1 = 0 then f_X7_judge_18 nb_F N (nI 2) 0 else nb_p (f_X7_error N r_1) fun r M => some (r, M)) := by
  rcases hs_mis2 R with ⟨c, d⟩ | ⟨c, d⟩
  · rw [c, d, if_neg hs_10]
    simp only [nb_o]
    rw [if_neg (by decide)]
    exact hs_e2 R
  · rw [c, d, if_pos rfl]
    simp only [nb_o, ↓reduceIte]
    obtain ⟨q, hq, eq⟩ := hs_nq R.2.1
    obtain ⟨w, z, -, hz, -, -, e2, -, -, -⟩ := hs_rSH2 R
    obtain ⟨v, g1, g2⟩ := hs_rst2 hz hq R e2 eq nb_F 0 (by omega) (by omega) (by have := hs_F; omega)
    have g1' : f_X0_rightStates_1_47 M = _ := g1
    have g2' : f_X7_judge_18 nb_F N (nI 2) 0 = _ := g2
    rw [g1', g2']
    exact ⟨_, _, _, rfl, rfl, R⟩
theorem hs_put2 (R : hs_Rel M N) (p1 p2 : Int32) : hs_S (if f_X2_isMissing_47 M = 0 then (if p1 < 0 then nb_p (f_X6_fail M 1) fun r M => some (r, M) else if p1 < M.1 47 2 then (if p1 < 0 ∨ 24 ≤ p1.toNatClampNeg then none else nb_n (nb_i M 48 p1.toNatClampNeg (f_X2_lowestBits_47 M p2)) fun M_1 => some (1, M_1)) else nb_p (f_X6_fail M 1) fun r M => some (r, M)) else nb_p (f_X6_fail M 2) fun r M => some (r, M)) (f_X7_put N (nI 2) p1 p2) := by
  unfold f_X7_put
  rcases hs_mis2 R with ⟨c, d⟩ | ⟨c, d⟩
  · rw [c, d, if_neg hs_10]
    simp only [nb_o]
    rw [if_neg (by decide)]
    unfold f_X7_put_33
    rw [if_neg (by decide)]
    exact hs_e2 R
  · rw [c, d, if_pos rfl]
    simp only [nb_o, ↓reduceIte]
    obtain ⟨w, z, hw, hz, h0, e1, e2, e3, e4, e5⟩ := hs_rSH2 R
    rw [if_neg (nI_in (c := 2) (N := 4) (by decide) (by decide)), nI_clamp (show 2 < 2 ^ 31 by omega), e4, e2]
    rcases hs_isr p1 (n := z) (by omega) with ⟨c, k, hk, rfl⟩ | ⟨c, hc⟩
    · rw [c, if_neg hs_10, if_neg (nI_pos (by omega)), if_pos (nI_lt hk (by omega)), if_neg (nI_in (show k < 24 by omega) (by decide)), nI_clamp (show k < 2 ^ 31 by omega)]
      have x0 : ((24 : Int32) * nI 2) + nI k = nI (24 * 2 + k) := by rw [show (24 : Int32) = nI 24 from rfl, pk_mul, nI_add]
      have key : f_X7_put_33 N (nI 2) (nI k) p2 0 = some (1, nb_i N 6 (24 * 2 + k) (f_X2_lowestBits_47 M p2)) := by
        unfold f_X7_put_33 f_X2_lowestBits_47
        rw [if_pos rfl, if_neg (nI_in (c := 2) (N := 4) (by decide) (by decide)), nI_clamp (show 2 < 2 ^ 31 by omega), e3, e1, x0, nI_clamp (show 24 * 2 + k < 2 ^ 31 by omega)]
        have cb := nI_in (c := 24 * 2 + k) (N := 96) (by omega) (by decide)
        rw [nI_clamp (show 24 * 2 + k < 2 ^ 31 by omega)] at cb
        simp only [nb_n]
        by_cases y8 : nI w = 8
        · rw [if_pos y8, if_pos y8, if_neg cb]
        · rw [if_neg y8, if_neg y8]
          by_cases y16 : nI w = 16
          · rw [if_pos y16, if_pos y16, if_neg cb]
          · rw [if_neg y16, if_neg y16, if_neg cb]
      rw [key]
      simp only [nb_n]
      refine ⟨_, _, _, rfl, rfl, R.sheet (t := 2) (by decide) (fun k' h1 h2 => hs_gi h2) (fun k' h4 h5 h6 => hs_gi h6) (fun _ _ => rfl) (fun _ _ => rfl) (fun i' k' hi' hk' => ?_) ⟨w, z, hw, hz, h0, e1, e2, e3, e4, fun k' hk' => ?_⟩⟩
      · show upd (N.1 6) (24 * 2 + k) _ (24 * i' + k') = _
        rw [hs_upd_n (by omega)]
      · show upd (N.1 6) (24 * 2 + k) _ (24 * 2 + k') = upd (M.1 48) k _ k'
        by_cases y : k' = k
        · subst y; rw [hs_upd_s, hs_upd_s]
        · rw [hs_upd_n (by omega), hs_upd_n y, e5 k' hk']
    · rw [c, if_pos rfl]
      by_cases h : p1 < 0
      · rw [if_pos h]; exact hs_e1 R
      · rw [if_neg h, if_neg (Int32.not_lt.mpr (hc.resolve_left h))]; exact hs_e1 R
end HSR2
