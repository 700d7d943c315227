/-! the calls: what was counted, what came -/
section HSP
variable {M N : nb_M}
theorem s_told (R : hs_Rel M N) (p0 : Int32) : hs_S (f_X6_told M p0) (f_X7_told N p0) := by
  unfold f_X6_told f_X7_told
  by_cases h1 : p0 < 1
  · have c : f_X7_in p0 1 6 = 0 := by rw [hs_in]; exact if_pos (Or.inl h1)
    rw [if_pos h1, c, if_pos rfl]; exact hs_e1 R
  · rw [if_neg h1]
    by_cases h2 : p0 ≤ 6
    · have c : f_X7_in p0 1 6 = 1 := by rw [hs_in]; exact if_neg (fun w => w.elim h1 (fun w => absurd h2 (Int32.not_le.mpr w)))
      rw [if_pos h2, c, if_neg hs_10]
      obtain ⟨m, hm, e⟩ := nI_of2 (x := p0) (M := 6) (n := 6) (by decide) (fun w => h1 (Int32.lt_trans w (by decide))) h2
      subst e
      have hb := nI_in (c := m) (N := 7) (by omega) (by decide)
      rw [if_neg hb, if_neg hb, nI_clamp (show m < 2 ^ 31 by omega)]
      have hm1 : 1 ≤ m := by
        rcases Nat.eq_zero_or_pos m with w | w
        · subst w; exact absurd (by decide : (nI 0) < 1) h1
        · exact w
      rw [R.2.2.2.2.1 m hm1 hm]
      exact ⟨_, _, _, rfl, rfl, R⟩
    · have c : f_X7_in p0 1 6 = 0 := by rw [hs_in]; exact if_pos (Or.inr (Int32.not_le.mp h2))
      rw [if_neg h2, c, if_pos rfl]; exact hs_e1 R
theorem s_count (R : hs_Rel M N) (p0 : Int32) : hs_S (f_X6_count M p0) (f_X7_count N p0) := by
  unfold f_X6_count f_X7_count
  rw [hs_c0, hs_c1, hs_c2, hs_c3, hs_c4, hs_c5, hs_r0 R.1, hs_r1 R.1, hs_r2 R.1, hs_r3 R.1, hs_r4 R.1, hs_r5 R.1, hs_rsh R.1 R.2.1, hs_csh R.2.1]
  obtain ⟨t, -, e1, e2, -⟩ := R.2.2.2.2.2.1
  rw [e1, e2]
  simp only [nb_o]
  by_cases q0 : p0 = 0
  · rw [if_pos q0, if_pos q0]; exact ⟨_, _, _, rfl, rfl, R⟩
  rw [if_neg q0, if_neg q0]
  by_cases q1 : p0 = 1
  · rw [if_pos q1, if_pos q1]; exact ⟨_, _, _, rfl, rfl, R⟩
  rw [if_neg q1, if_neg q1]
  by_cases q2 : p0 = 2
  · rw [if_pos q2, if_pos q2]; exact ⟨_, _, _, rfl, rfl, R⟩
  rw [if_neg q2, if_neg q2]
  by_cases q3 : p0 = 3
  · rw [if_pos q3, if_pos q3]; exact ⟨_, _, _, rfl, rfl, R⟩
  rw [if_neg q3, if_neg q3]
  by_cases q4 : p0 = 4
  · rw [if_pos q4, if_pos q4]; exact ⟨_, _, _, rfl, rfl, R⟩
  rw [if_neg q4, if_neg q4]
  by_cases q5 : p0 = 5
  · rw [if_pos q5, if_pos q5]; exact ⟨_, _, _, rfl, rfl, R⟩
  rw [if_neg q5, if_neg q5]
  by_cases q6 : p0 = 6
  · rw [if_pos q6, if_pos q6]; exact ⟨_, _, _, rfl, rfl, R⟩
  rw [if_neg q6, if_neg q6]
  by_cases q7 : p0 = 7
  · rw [if_pos q7, if_pos q7]; exact ⟨_, _, _, rfl, rfl, R⟩
  rw [if_neg q7, if_neg q7]
  exact hs_e1 R
theorem s_body (R : hs_Rel M N) (p0 : Int32) : hs_S (f_X6_body M p0) (f_X7_body N p0) := by
  unfold f_X6_body f_X7_body
  obtain ⟨t, ht, e1, e2, e3⟩ := R.2.2.2.2.2.1
  rw [e1, e2]
  rcases hs_isr p0 (n := t) (by omega) with ⟨c, k, hk, rfl⟩ | ⟨c, hc⟩
  · have hb := nI_in (c := k) (N := 30) (by omega) (by decide)
    rw [c, if_neg hs_10, if_neg (nI_pos (by omega)), if_pos (nI_lt hk (by omega)), if_neg hb, if_neg hb, nI_clamp (show k < 2 ^ 31 by omega), e3 k hk]
    exact ⟨_, _, _, rfl, rfl, R⟩
  · rw [c, if_pos rfl]
    by_cases h : p0 < 0
    · rw [if_pos h]; exact hs_e2 R
    · rw [if_neg h, if_neg (Int32.not_lt.mpr (hc.resolve_left h))]; exact hs_e2 R
theorem hs_nw {h : Nat → Nat → Int32} (H : hs_HI h) : ∃ q, q ≤ 24 ∧ h 0 15 = nI q := H.1 0 15 ⟨by unfold hs_V; omega, by omega, by omega⟩
theorem s_tell (R : hs_Rel M N) (p0 : Int32) : hs_S (f_X6_tell M p0) (f_X7_tell N p0) := by
  unfold f_X6_tell f_X7_tell
  obtain ⟨w, hw, e⟩ := hs_nw R.2.1
  have e1 : M.1 1 15 = nI w := e
  have e2 : N.1 1 5 = nI w := (hs_r5 R.1).trans e
  simp only [nb_n]
  rw [hs_c5, e1, e2]
  by_cases hl : w < 24
  · have x : (117 : Int32) + nI w = nI (117 + w) := by rw [show (117 : Int32) = nI 117 from rfl, nI_add]
    have e3 : (nb_i M 11 w p0).1 1 15 = nI w := e1
    have e4 : (nb_i N 1 (117 + w) p0).1 1 5 = nI w := by
      show upd (N.1 1) (117 + w) p0 5 = _
      rw [hs_upd_n (by omega)]; exact e2
    rw [if_pos (show nI w < (24 : Int32) from nI_lt (b := 24) hl (by decide)), if_neg (show ¬ nI w = (24 : Int32) from hs_ne (b := 24) (by omega) (by omega) (by decide)), x, if_neg (nI_in hl (by decide)), if_neg (nI_in (show 117 + w < 383 by omega) (by decide)), nI_clamp (show w < 2 ^ 31 by omega), nI_clamp (show 117 + w < 2 ^ 31 by omega), e3, e4, nI_1]
    have e5 : (nb_i (nb_i M 11 w p0) 1 15 (nI (w + 1))).1 1 15 = nI (w + 1) := rfl
    have e6 : (nb_i (nb_i N 1 (117 + w) p0) 1 5 (nI (w + 1))).1 1 5 = nI (w + 1) := rfl
    rw [e5, e6]
    refine ⟨_, _, _, rfl, rfl, ?_⟩
    refine R.house ((hs_Oc.i (by omega) (by omega)).tr (hs_Oc.i (by omega) (by omega))) (hs_Od.i.tr hs_Od.i) ?_ ?_
    · rw [hs_ho1 (k := 0) rfl (by decide) (by decide) (by decide), hs_ho1 (k := 10) rfl (by decide) (by decide) (by decide)]
      exact (R.1.s10 hl _).o15 _
    · rw [hs_ho1 (k := 0) rfl (by decide) (by decide) (by decide), hs_ho1 (k := 10) rfl (by decide) (by decide) (by decide)]
      exact (R.2.1.set p0 (fun hv => by unfold hs_VB at hv; omega) (by decide) (by simp)).s (by simp [hs_bd]; omega) (by decide) (by simp)
  · have : w = 24 := by omega
    subst this
    rw [if_neg (by decide), if_pos (by decide)]
    exact hs_e4 R
theorem hs_chk {N' : nb_M} {q w : Nat} (hq : q ≤ 5) (hw : w ≤ 24) (e2 : M.1 1 2 = nI q) (er : N'.1 1 3 = nI q) (ew : M.1 1 15 = nI w) (ha : ∀ i, i < 5 → f_X7_about N' (nI i) 2 = some (M.1 4 i)) (hp : ∀ k, k < 24 → N'.1 1 (117 + k) = M.1 11 k) : ∀ (n i : Nat), i ≤ w → w - i < n → ∃ r, f_X0_firstWrongHad_2 n M (nI i) = some r ∧ f_X7_check_16 n N' (nI w) (nI i) = some (r + 1, N') := by
  intro n
  induction n with
  | zero => intro i _ h; omega
  | succ n ih =>
    intro i hi hn
    rw [f_X0_firstWrongHad_2, f_X7_check_16, ew, e2]
    by_cases hl : i < w
    · rw [if_neg (nI_ge hl (by omega)), if_neg (nI_ge hl (by omega))]
      have hpe : f_X7_isPerson N' (nI i) = if i < q then 1 else 0 := by
        unfold f_X7_isPerson
        rw [hs_c3, er]
        rcases hs_isr (nI i) (n := q) (by omega) with ⟨d1, k, hk, ek⟩ | ⟨d1, d2⟩
        · have := (nI_eq (by omega) (by omega)).mp ek
          subst this
          rw [d1, if_pos hk]
        · rw [d1, if_neg]
          intro hk
          rcases d2 with d2 | d2
          · exact absurd d2 (nI_pos (by omega))
          · exact absurd d2 (nI_ge hk (by omega))
      rw [hpe]
      by_cases hk : i < q
      · have x : (117 : Int32) + nI i = nI (117 + i) := by rw [show (117 : Int32) = nI 117 from rfl, nI_add]
        rw [if_neg (nI_ge hk (by omega)), if_pos hk, if_neg hs_10, x, if_neg (nI_in (show i < 24 by omega) (by decide)), if_neg (nI_in (show i < 5 by omega) (by decide)), if_neg (nI_in (show 117 + i < 383 by omega) (by decide)), nI_clamp (show i < 2 ^ 31 by omega), nI_clamp (show 117 + i < 2 ^ 31 by omega), ha i (by omega), hp i (by omega)]
        simp only [nb_o]
        by_cases z : M.1 11 i = M.1 4 i
        · rw [if_pos z, if_pos z, nI_1]
          exact ih (i + 1) (by omega) (by omega)
        · rw [if_neg z, if_neg z]
          exact ⟨_, rfl, by rw [Int32.add_comm]⟩
      · rw [if_pos (nI_le (by omega) (by omega)), if_neg hk, if_pos rfl]
        exact ⟨_, rfl, by rw [Int32.add_comm]⟩
    · rw [if_pos (nI_le (by omega) (by omega)), if_pos (nI_le (by omega) (by omega))]
      exact ⟨_, rfl, rfl⟩
theorem s_check (R : hs_Rel M N) : hs_S (f_X6_check M) (f_X7_check N) := by
  unfold f_X6_check f_X7_check f_X0_firstWrongHad
  obtain ⟨w, hw, e⟩ := hs_nw R.2.1
  have e1 : M.1 1 15 = nI w := e
  have e2 : N.1 1 5 = nI w := (hs_r5 R.1).trans e
  obtain ⟨q, hq, eq⟩ := hs_np R.2.1
  simp only [nb_n]
  rw [hs_c5, e2]
  have h1 : hs_HH (hs_ho 1 (nb_i M 1 15 0)) ((nb_i N 1 5 0).1 1) := by
    rw [hs_ho1 (k := 0) rfl (by decide) (by decide) (by decide)]
    exact R.1.o15 _
  have rel : hs_Rel (nb_i M 1 15 0) (nb_i N 1 5 0) := by
    refine R.house (hs_Oc.i (by omega) (by omega)) hs_Od.i h1 ?_
    rw [hs_ho1 (k := 0) rfl (by decide) (by decide) (by decide)]
    exact R.2.1.s (n := 0) (by omega) (by decide) (by simp)
  obtain ⟨r, g1, g2⟩ := hs_chk (M := M) (N' := nb_i N 1 5 0) hq hw eq ((hs_r3 h1).trans eq) e1 (fun i hi => hs_ab2 h1 hi) (fun k hk => h1.at (k := 10) (j := k) (by unfold hs_V; omega) (by simp [hs_ps])) nb_F 0 (by omega) (by have := hs_F; omega)
  have g1' : f_X0_firstWrongHad_2 nb_F M 0 = _ := g1
  have g2' : f_X7_check_16 nb_F (nb_i N 1 5 0) (nI w) 0 = _ := g2
  rw [g1', g2']
  exact ⟨_, _, _, rfl, rfl, rel⟩
end HSP
