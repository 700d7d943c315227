/-! the calls: pieces, people -/
section HSA
variable {h : Nat → Nat → Int32} {r : Nat → Int32}
theorem hs_HH.s1 (H : hs_HH h r) {i : Nat} (hi : i < 5) (v : Int32) : hs_HH (hs_u h 1 i v) (upd r (6 + 3 * i) v) := H.set (by unfold hs_V; omega) (by simp [hs_ps]; omega) v
theorem hs_HH.s2 (H : hs_HH h r) {i : Nat} (hi : i < 5) (v : Int32) : hs_HH (hs_u h 2 i v) (upd r (6 + 3 * i + 1) v) := H.set (by unfold hs_V; omega) (by simp [hs_ps]; omega) v
theorem hs_HH.s3 (H : hs_HH h r) {i : Nat} (hi : i < 5) (v : Int32) : hs_HH (hs_u h 3 i v) (upd r (6 + 3 * i + 2) v) := H.set (by unfold hs_V; omega) (by simp [hs_ps]; omega) v
theorem hs_HH.s4 (H : hs_HH h r) {a : Nat} (ha : a < 9) (v : Int32) : hs_HH (hs_u h 4 a v) (upd r (21 + 4 * a) v) := H.set (by unfold hs_V; omega) (by simp [hs_ps]; omega) v
theorem hs_HH.s5 (H : hs_HH h r) {a : Nat} (ha : a < 9) (v : Int32) : hs_HH (hs_u h 5 a v) (upd r (21 + 4 * a + 1) v) := H.set (by unfold hs_V; omega) (by simp [hs_ps]; omega) v
theorem hs_HH.s6 (H : hs_HH h r) {a : Nat} (ha : a < 9) (v : Int32) : hs_HH (hs_u h 6 a v) (upd r (21 + 4 * a + 2) v) := H.set (by unfold hs_V; omega) (by simp [hs_ps]; omega) v
theorem hs_HH.s7 (H : hs_HH h r) {a : Nat} (ha : a < 9) (v : Int32) : hs_HH (hs_u h 7 a v) (upd r (21 + 4 * a + 3) v) := H.set (by unfold hs_V; omega) (by simp [hs_ps]; omega) v
theorem hs_HH.o0 (H : hs_HH h r) (v : Int32) : hs_HH (hs_u h 0 0 v) (upd r 0 v) := H.set (by unfold hs_V; omega) rfl v
theorem hs_HH.o1 (H : hs_HH h r) (v : Int32) : hs_HH (hs_u h 0 1 v) (upd r 1 v) := H.set (by unfold hs_V; omega) rfl v
theorem hs_HH.o2 (H : hs_HH h r) (v : Int32) : hs_HH (hs_u h 0 2 v) (upd r 3 v) := H.set (by unfold hs_V; omega) rfl v
theorem hs_HH.o6 (H : hs_HH h r) (v : Int32) : hs_HH (hs_u h 0 6 v) (upd r 2 v) := H.set (by unfold hs_V; omega) rfl v
theorem hs_HH.o13 (H : hs_HH h r) (v : Int32) : hs_HH (hs_u h 0 13 v) (upd r 4 v) := H.set (by unfold hs_V; omega) rfl v
theorem hs_HH.o15 (H : hs_HH h r) (v : Int32) : hs_HH (hs_u h 0 15 v) (upd r 5 v) := H.set (by unfold hs_V; omega) rfl v
theorem hs_HH.s9 (H : hs_HH h r) {k : Nat} (hk : k < 60) (v : Int32) : hs_HH (hs_u h 9 k v) (upd r (57 + k) v) := H.set (by unfold hs_V; omega) (by simp [hs_ps]) v
theorem hs_HH.s10 (H : hs_HH h r) {k : Nat} (hk : k < 24) (v : Int32) : hs_HH (hs_u h 10 k v) (upd r (117 + k) v) := H.set (by unfold hs_V; omega) (by simp [hs_ps]) v
/-- bounds kept -/
theorem hs_HI.s (H : hs_HI h) {k j n : Nat} (hb : n ≤ hs_bd k j) (h1 : k ≠ 6) (h2 : ¬ (k = 0 ∧ (j = 2 ∨ j = 6))) : hs_HI (hs_u h k j (nI n)) := H.set (nI n) (fun _ => ⟨n, hb, rfl⟩) h1 h2
theorem hs_HI.at (H : hs_HI h) {k j : Nat} (hv : hs_VB k j) : ∃ n, n ≤ hs_bd k j ∧ h k j = nI n := H.1 k j hv
end HSA
theorem hs_10 : ¬ (1 : Int32) = 0 := by decide
theorem hs_ne {a b : Nat} (h : a ≠ b) (ha : a < 2 ^ 31) (hb : b < 2 ^ 31) : ¬ nI a = nI b := fun e => h ((nI_eq ha hb).mp e)
section HSM
variable {M N : nb_M}
theorem s_person (R : hs_Rel M N) (p0 p1 : Int32) : hs_S (f_X6_person M p0 p1) (f_X7_person N p0 p1) := by
  unfold f_X6_person f_X7_person
  rcases hs_wi p0 (b := 9) (by decide) (B := 9) rfl with ⟨c1, d1, c, hc, rfl⟩ | ⟨c1, d1⟩
  · rw [c1, d1, if_neg hs_10, if_neg hs_10]
    rcases hs_wi p1 (b := 9) (by decide) (B := 9) rfl with ⟨c2, d2, t, ht, rfl⟩ | ⟨c2, d2⟩
    · rw [c2, d2, if_neg hs_10, if_neg hs_10]
      obtain ⟨q, hq, e⟩ := hs_np R.2.1
      have e1 : M.1 1 2 = nI q := e
      have e2 : N.1 1 3 = nI q := (hs_r3 R.1).trans e
      simp only [nb_n]
      rw [hs_c3, e1, e2]
      by_cases hl : q < 5
      · rw [if_pos (show nI q < (5 : Int32) from nI_lt (b := 5) hl (by decide)), if_neg (show ¬ nI q = (5 : Int32) from hs_ne (b := 5) (by omega) (by omega) (by decide))]
        unfold f_X0_addPerson
        have x0 : (6 : Int32) + ((3 : Int32) * nI q) = nI (6 + 3 * q) := by rw [show (6 : Int32) = nI 6 from rfl, show (3 : Int32) = nI 3 from rfl, pk_mul, nI_add]
        have x2 : nI (6 + 3 * q) + 2 = nI (6 + 3 * q + 2) := by rw [show (2 : Int32) = nI 2 from rfl, nI_add]
        have e5 : (nb_i (nb_i (nb_i M 2 q (nI c)) 3 q (nI t)) 4 q 0).1 1 2 = nI q := e1
        simp only [nb_n]
        rw [e1, x0, nI_1, nI_1, x2, if_neg (nI_in hl (by decide)), if_neg (nI_in (show 6 + 3 * q < 383 by omega) (by decide)), if_neg (nI_in (show 6 + 3 * q + 1 < 383 by omega) (by decide)), if_neg (nI_in (show 6 + 3 * q + 2 < 383 by omega) (by decide)), nI_clamp (show q < 2 ^ 31 by omega), nI_clamp (show 6 + 3 * q < 2 ^ 31 by omega), nI_clamp (show 6 + 3 * q + 1 < 2 ^ 31 by omega), nI_clamp (show 6 + 3 * q + 2 < 2 ^ 31 by omega), e5, nI_1]
        refine ⟨_, _, _, rfl, rfl, ?_⟩
        refine R.house ((((hs_Oc.i (by omega) (by omega)).tr (hs_Oc.i (by omega) (by omega))).tr (hs_Oc.i (by omega) (by omega))).tr (hs_Oc.i (by omega) (by omega))) (((hs_Od.i.tr hs_Od.i).tr hs_Od.i).tr hs_Od.i) ?_ ?_
        · rw [hs_ho1 (k := 0) rfl (by decide) (by decide) (by decide), hs_ho1 (k := 3) rfl (by decide) (by decide) (by decide), hs_ho1 (k := 2) rfl (by decide) (by decide) (by decide), hs_ho1 (k := 1) rfl (by decide) (by decide) (by decide)]
          show hs_HH _ (upd (upd (upd (upd (N.1 1) 3 (nI (q + 1))) (6 + 3 * q) (nI c)) (6 + 3 * q + 1) (nI t)) (6 + 3 * q + 2) 0)
          rw [hs_updc (n := 3) (m := 6 + 3 * q) (by omega), hs_updc (n := 3) (m := 6 + 3 * q + 1) (by omega), hs_updc (n := 3) (m := 6 + 3 * q + 2) (by omega)]
          exact (((R.1.s1 hl _).s2 hl _).s3 hl _).o2 _
        · rw [hs_ho1 (k := 0) rfl (by decide) (by decide) (by decide), hs_ho1 (k := 3) rfl (by decide) (by decide) (by decide), hs_ho1 (k := 2) rfl (by decide) (by decide) (by decide), hs_ho1 (k := 1) rfl (by decide) (by decide) (by decide)]
          exact (((R.2.1.s (by simp [hs_bd]; omega) (by decide) (by simp)).s (by simp [hs_bd]; omega) (by decide) (by simp)).s (n := 0) (by simp [hs_bd]) (by decide) (by simp)).people e hl
      · have : q = 5 := by omega
        subst this
        rw [if_neg (by decide), if_pos (by decide)]
        exact hs_e4 R
    · rw [c2, d2, if_pos rfl, if_pos rfl]; exact hs_e1 R
  · rw [c1, d1, if_pos rfl, if_pos rfl]; exact hs_e1 R
theorem s_personIs (R : hs_Rel M N) (p0 p1 : Int32) : hs_S (f_X6_personIs M p0 p1) (f_X7_personIs N p0 p1) := by
  unfold f_X6_personIs f_X7_personIs
  rcases hs_per R p0 with ⟨c1, d1, i, hi, -, rfl⟩ | ⟨c1, d1⟩
  · rw [c1, d1, if_neg hs_10, if_neg hs_10]
    have hb := nI_in (c := i) (N := 5) hi (by decide)
    have hc : (nI i).toNatClampNeg = i := nI_clamp (by omega)
    simp only [if_neg hb]
    by_cases q0 : p1 = 0
    · subst q0
      rw [if_pos rfl, if_pos rfl, hc, hs_ab0 R.1 hi]
      exact ⟨_, _, _, rfl, rfl, R⟩
    rw [if_neg q0, if_neg q0]
    by_cases q1 : p1 = 1
    · subst q1
      rw [if_pos rfl, if_pos rfl, hc, hs_ab1 R.1 hi]
      exact ⟨_, _, _, rfl, rfl, R⟩
    rw [if_neg q1, if_neg q1]
    by_cases q2 : p1 = 2
    · subst q2
      rw [if_pos rfl, if_pos rfl, hc, hs_ab2 R.1 hi]
      exact ⟨_, _, _, rfl, rfl, R⟩
    rw [if_neg q2, if_neg q2]
    by_cases q3 : p1 = 3
    · subst q3
      rw [if_pos rfl, if_pos rfl, hs_cth hi, hs_rth R.1 hi]
      simp only [nb_o]
      by_cases z : hs_th (hs_ho 1 M) i = 0
      · rw [if_pos z, z]; exact ⟨_, _, _, rfl, rfl, R⟩
      · have z1 : hs_th (hs_ho 1 M) i = 1 := by
          unfold hs_th at z ⊢
          split at z
          · exact absurd rfl z
          · rw [if_neg ‹_›]
        rw [if_neg z, z1]; exact ⟨_, _, _, rfl, rfl, R⟩
    rw [if_neg q3, if_neg q3]
    by_cases q4 : p1 = 4
    · subst q4
      rw [if_pos rfl, if_pos rfl, hs_rdue R.1 hi, hs_rsh R.1 R.2.1]
      simp only [nb_o]
      obtain ⟨M', g1, g2⟩ := hs_cyr R.1 R.2.1 hi
      obtain ⟨N', g3, g4⟩ := hs_ryr R.1 R.2.1 hi
      rw [g1, g3]
      exact ⟨_, _, _, rfl, rfl, R.sc g2 g4⟩
    rw [if_neg q4, if_neg q4]
    exact hs_e1 R
  · rw [c1, d1, if_pos rfl, if_pos rfl]; exact hs_e1 R
theorem hs_d10 {c : Nat} (hc : c < 100) : (nI c / 10 = nI (c / 10)) ∧ (nI c - nI c / 10 * 10 = nI (c % 10)) := ⟨pk_div (d := 10) (by omega) (by decide) (by decide), pk_rem (d := 10) (by omega) (by decide) (by decide)⟩
theorem s_piece (R : hs_Rel M N) (p0 p1 : Int32) : hs_S (f_X6_piece M p0 p1) (f_X7_piece N p0 p1) := by
  unfold f_X6_piece f_X7_piece f_X7_isKm
  rcases hs_wi p0 (b := 69) (by decide) (B := 69) rfl with ⟨c1, d1, c, hc, rfl⟩ | ⟨c1, d1⟩
  · rw [c1, d1, if_neg hs_10, if_neg hs_10]
    rcases hs_per R p1 with ⟨c2, d2, i, hi, hil, rfl⟩ | ⟨c2, d2⟩
    · rw [c2, d2, if_neg hs_10, if_neg hs_10]
      obtain ⟨q, hq, e⟩ := hs_nq R.2.1
      have e1 : M.1 1 6 = nI q := e
      have e2 : N.1 1 2 = nI q := (hs_r2 R.1).trans e
      simp only [nb_n]
      rw [hs_c2, e1, e2]
      by_cases hl : q < 9
      · rw [if_pos (show nI q < (9 : Int32) from nI_lt (b := 9) hl (by decide)), if_neg (show ¬ nI q = (9 : Int32) from hs_ne (b := 9) (by omega) (by omega) (by decide))]
        obtain ⟨z1, z2⟩ := hs_d10 (c := c) (by omega)
        unfold f_X0_addPiece f_X0_shape
        simp only [nb_n]
        rw [z2, z1, e1]
        simp only [if_neg (nI_in (c := q) (N := 9) hl (by decide)), nb_o]
        rw [nI_1]
        have l0 : ∀ (K : nb_M) (v : Int32), f_X7_lets K (nI q) 0 v = some (nb_i K 1 (21 + 4 * q) v) := fun K v => hs_lets (j := 0) (by omega)
        have l1 : ∀ (K : nb_M) (v : Int32), f_X7_lets K (nI q) 1 v = some (nb_i K 1 (21 + 4 * q + 1) v) := fun K v => hs_lets (j := 1) (by omega)
        have l2 : ∀ (K : nb_M) (v : Int32), f_X7_lets K (nI q) 2 v = some (nb_i K 1 (21 + 4 * q + 2) v) := fun K v => hs_lets (j := 2) (by omega)
        have l3 : ∀ (K : nb_M) (v : Int32), f_X7_lets K (nI q) 3 v = some (nb_i K 1 (21 + 4 * q + 3) v) := fun K v => hs_lets (j := 3) (by omega)
        simp only [l0, l1, l2, l3]
        have e5 : (nb_i (nb_i (nb_i (nb_i M 5 q (nI (c / 10))) 6 q (nI (c % 10))) 7 q (nI i)) 8 q 0).1 1 6 = nI q := e1
        rw [nI_clamp (show q < 2 ^ 31 by omega), e5, nI_1]
        refine ⟨_, _, _, rfl, rfl, ?_⟩
        refine R.house (((((hs_Oc.i (by omega) (by omega)).tr (hs_Oc.i (by omega) (by omega))).tr (hs_Oc.i (by omega) (by omega))).tr (hs_Oc.i (by omega) (by omega))).tr (hs_Oc.i (by omega) (by omega))) ((((hs_Od.i.tr hs_Od.i).tr hs_Od.i).tr hs_Od.i).tr hs_Od.i) ?_ ?_
        · rw [hs_ho1 (k := 0) rfl (by decide) (by decide) (by decide), hs_ho1 (k := 7) rfl (by decide) (by decide) (by decide), hs_ho1 (k := 6) rfl (by decide) (by decide) (by decide), hs_ho1 (k := 5) rfl (by decide) (by decide) (by decide), hs_ho1 (k := 4) rfl (by decide) (by decide) (by decide)]
          show hs_HH _ (upd (upd (upd (upd (upd (N.1 1) 2 (nI (q + 1))) (21 + 4 * q) _) (21 + 4 * q + 1) _) (21 + 4 * q + 2) _) (21 + 4 * q + 3) 0)
          rw [hs_updc (n := 2) (m := 21 + 4 * q) (by omega), hs_updc (n := 2) (m := 21 + 4 * q + 1) (by omega), hs_updc (n := 2) (m := 21 + 4 * q + 2) (by omega), hs_updc (n := 2) (m := 21 + 4 * q + 3) (by omega)]
          exact ((((R.1.s4 hl _).s5 hl _).s6 hl _).s7 hl _).o6 _
        · rw [hs_ho1 (k := 0) rfl (by decide) (by decide) (by decide), hs_ho1 (k := 7) rfl (by decide) (by decide) (by decide), hs_ho1 (k := 6) rfl (by decide) (by decide) (by decide), hs_ho1 (k := 5) rfl (by decide) (by decide) (by decide), hs_ho1 (k := 4) rfl (by decide) (by decide) (by decide)]
          have i1 : hs_HI (hs_u (hs_u (hs_ho 1 M) 4 q (nI (c / 10))) 5 q (nI (c % 10))) := (R.2.1.s (by simp [hs_bd]; omega) (by decide) (by simp)).s (by simp [hs_bd]; omega) (by decide) (by simp)
          have i2 := i1.owner (a := q) hi hil
          have i3 : hs_HI (hs_u (hs_u (hs_u (hs_u (hs_ho 1 M) 4 q (nI (c / 10))) 5 q (nI (c % 10))) 6 q (nI i)) 7 q 0) := i2.s (n := 0) (by simp [hs_bd]) (by decide) (by simp)
          refine i3.pieces e hl ?_
          show upd (hs_ho 1 M 6) q (nI i) q < _
          rw [hs_upd_s]
          exact hil
      · have : q = 9 := by omega
        subst this
        rw [if_neg (by decide), if_pos (by decide)]
        exact hs_e4 R
    · rw [c2, d2, if_pos rfl, if_pos rfl]; exact hs_e1 R
  · rw [c1, d1, if_pos rfl, if_pos rfl]; exact hs_e1 R
/-- an owner is one of the people -/
theorem hs_own (R : hs_Rel M N) {a : Nat} (ha : a < 9) : ∃ o, o < 5 ∧ hs_ho 1 M 6 a = nI o := by
  obtain ⟨o, h1, h2⟩ := R.2.1.at (k := 6) (j := a) ⟨by unfold hs_V; omega, by omega, by omega⟩
  exact ⟨o, by simp [hs_bd] at h1; omega, h2⟩
theorem hs_bit {x : Int32} (h : x = 0 ∨ x = 1) : f_X6_bit x = x := by
  unfold f_X6_bit
  rcases h with h | h
  · rw [if_pos h, h]
  · rw [h]; rfl
theorem s_pieceIs (R : hs_Rel M N) (p0 p1 : Int32) : hs_S (f_X6_pieceIs M p0 p1) (f_X7_pieceIs N p0 p1) := by
  unfold f_X6_pieceIs f_X7_pieceIs
  rcases hs_pie R p0 with ⟨c1, d1, a, ha, -, rfl⟩ | ⟨c1, d1⟩
  · rw [c1, d1, if_neg hs_10, if_neg hs_10]
    have hb := nI_in (c := a) (N := 9) ha (by decide)
    have hc : (nI a).toNatClampNeg = a := nI_clamp (by omega)
    simp only [if_neg hb]
    by_cases q0 : p1 = 0
    · subst q0
      rw [if_pos rfl, hc, show f_X7_in 0 0 5 = 1 from by decide, if_neg hs_10, if_neg (by decide), hs_of0 R.1 ha]
      exact ⟨_, _, _, rfl, rfl, R⟩
    rw [if_neg q0]
    by_cases q1 : p1 = 1
    · subst q1
      rw [if_pos rfl, hc, show f_X7_in 1 0 5 = 1 from by decide, if_neg hs_10, if_neg (by decide), hs_of1 R.1 ha]
      exact ⟨_, _, _, rfl, rfl, R⟩
    rw [if_neg q1]
    by_cases q2 : p1 = 2
    · subst q2
      rw [if_pos rfl, hc, show f_X7_in 2 0 5 = 1 from by decide, if_neg hs_10, if_neg (by decide), hs_of2 R.1 ha]
      exact ⟨_, _, _, rfl, rfl, R⟩
    rw [if_neg q2]
    by_cases q3 : p1 = 3
    · subst q3
      rw [if_pos rfl, hc, show f_X7_in 3 0 5 = 1 from by decide, if_neg hs_10, if_neg (by decide), hs_of3 R.1 ha]
      exact ⟨_, _, _, rfl, rfl, R⟩
    rw [if_neg q3]
    by_cases q4 : p1 = 4
    · subst q4
      rw [if_pos rfl, show f_X7_in 4 0 5 = 1 from by decide, if_neg hs_10, if_pos (by decide), if_neg (by decide), hs_cco R.2.1 ha, hs_rdc R.1 R.2.1 ha]
      simp only [nb_o]
      have e0 : hs_co (hs_ho 1 M) a (M.1 1 0) = hs_co (hs_ho 1 M) a (hs_ho 1 M 0 0) := rfl
      rw [e0]
      rcases hs_co01 (hs_ho 1 M) a (hs_ho 1 M 0 0) with z | z
      · rw [z, if_pos rfl]; exact ⟨_, _, _, rfl, rfl, R⟩
      · rw [z, if_neg (by decide)]; exact ⟨_, _, _, rfl, rfl, R⟩
    rw [if_neg q4]
    by_cases q5 : p1 = 5
    · subst q5
      obtain ⟨o, ho, eo⟩ := hs_own R ha
      have eo' : M.1 7 a = nI o := eo
      rw [if_pos rfl, show f_X7_in 5 0 5 = 1 from by decide, if_neg hs_10, if_pos (by decide), if_pos (by decide), hc, hs_of2 R.1 ha, eo', eo]
      simp only [nb_o]
      obtain ⟨M', g1, g2⟩ := hs_cri R.1 R.2.1 ha ho
      obtain ⟨N', g3, g4⟩ := hs_rri R.1 R.2.1 ha ho
      rw [g1, g3]
      exact ⟨_, _, _, rfl, rfl, R.sc g2 g4⟩
    rw [if_neg q5]
    have : f_X7_in p1 0 5 = 0 := by
      rcases hs_wi p1 (b := 5) (by decide) (B := 5) rfl with ⟨-, -, k, hk, e⟩ | ⟨-, d⟩
      · exfalso
        subst e
        match k, hk with
        | 0, _ => exact q0 rfl
        | 1, _ => exact q1 rfl
        | 2, _ => exact q2 rfl
        | 3, _ => exact q3 rfl
        | 4, _ => exact q4 rfl
        | 5, _ => exact q5 rfl
      · exact d
    rw [this, if_pos rfl]
    exact hs_e1 R
  · rw [c1, d1, if_pos rfl, if_pos rfl]; exact hs_e1 R
end HSM
