section HSM
variable {M N : nb_M}
theorem hs_ho2 {c1 k1 j1 c2 k2 j2 : Nat} {M : nb_M} {v1 v2 : Int32} (h1 : c1 = 1 + k1) (h2 : c2 = 1 + k2) (a1 : k1 ≤ 12) (a2 : k2 ≤ 12) : hs_ho 1 (nb_i (nb_i M c1 j1 v1) c2 j2 v2) = hs_u (hs_u (hs_ho 1 M) k1 j1 v1) k2 j2 v2 := by
  rw [hs_ho1 h2 (by omega) (by omega) (by omega), hs_ho1 h1 (by omega) (by omega) (by omega)]
theorem s_become (R : hs_Rel M N) (p0 p1 : Int32) : hs_S (f_X6_become M p0 p1) (f_X7_become N p0 p1) := by
  unfold f_X6_become f_X7_become f_X7_isKm
  rcases hs_pie R p0 with ⟨c1, d1, a, ha, -, rfl⟩ | ⟨c1, d1⟩
  · rw [c1, d1, if_neg hs_10, if_neg hs_10]
    rcases hs_wi p1 (b := 69) (by decide) (B := 69) rfl with ⟨c2, d2, c, hc, rfl⟩ | ⟨c2, d2⟩
    · rw [c2, d2, if_neg hs_10, if_neg hs_10]
      obtain ⟨z1, z2⟩ := hs_d10 (c := c) (by omega)
      have l1 : ∀ (K : nb_M) (v : Int32), f_X7_lets K (nI a) 1 v = some (nb_i K 1 (21 + 4 * a + 1) v) := fun K v => hs_lets (j := 1) (by omega)
      have x0 : (21 : Int32) + ((4 : Int32) * nI a) = nI (21 + 4 * a) := by rw [show (21 : Int32) = nI 21 from rfl, show (4 : Int32) = nI 4 from rfl, pk_mul, nI_add]
      unfold f_X0_shape
      simp only [if_neg (nI_in (c := a) (N := 9) ha (by decide)), nb_n, l1, nb_o]
      rw [x0, z2, z1, hs_becomes (by omega), nI_clamp (show a < 2 ^ 31 by omega)]
      have e5 : (nb_i N 1 (21 + 4 * a + 1) (nI (c % 10))).1 1 (21 + 4 * a) = M.1 5 a := by
        show upd (N.1 1) (21 + 4 * a + 1) (nI (c % 10)) (21 + 4 * a) = _
        rw [hs_upd_n (by omega)]
        exact R.1.at (k := 4) (j := a) (by unfold hs_V; omega) (by simp [hs_ps]; omega)
      rw [e5]
      refine ⟨_, _, _, rfl, rfl, ?_⟩
      refine R.house ((hs_Oc.i (by omega) (by omega)).tr (hs_Oc.i (by omega) (by omega))) (hs_Od.i.tr hs_Od.i) ?_ ?_
      · rw [hs_ho2 (k1 := 4) (k2 := 5) rfl rfl (by decide) (by decide)]
        show hs_HH _ (upd (upd (N.1 1) (21 + 4 * a + 1) _) (21 + 4 * a) _)
        rw [hs_updc (n := 21 + 4 * a + 1) (m := 21 + 4 * a) (by omega)]
        exact (R.1.s4 ha _).s5 ha _
      · rw [hs_ho2 (k1 := 4) (k2 := 5) rfl rfl (by decide) (by decide)]
        exact (R.2.1.s (by simp [hs_bd]; omega) (by decide) (by simp)).s (by simp [hs_bd]; omega) (by decide) (by simp)
    · rw [c2, d2, if_pos rfl, if_pos rfl]; exact hs_e1 R
  · rw [c1, d1, if_pos rfl, if_pos rfl]; exact hs_e1 R
def hs_ud (k t : Nat) : Prop := t = 0 ∨ t = k ∨ (t = 1 ∧ k = 4) ∨ (t = 2 ∧ k = 5)
theorem hs_und : ∀ k, k < 7 → ∀ t, t < 7 → f_X6_isUnder (nI k) (nI t) = some (if t = 0 ∨ t = k ∨ (t = 1 ∧ k = 4) ∨ (t = 2 ∧ k = 5) then 1 else 0) := by decide +kernel
theorem s_as (R : hs_Rel M N) (p0 p1 : Int32) : hs_S (f_X6_as M p0 p1) (f_X7_as N p0 p1) := by
  unfold f_X6_as f_X7_as
  rcases hs_pie R p0 with ⟨c1, d1, a, ha, -, rfl⟩ | ⟨c1, d1⟩
  · rw [c1, d1, if_neg hs_10, if_neg hs_10]
    rcases hs_wi p1 (b := 6) (by decide) (B := 6) rfl with ⟨c2, d2, t, ht, rfl⟩ | ⟨c2, d2⟩
    · rw [c2, d2, if_neg hs_10, if_neg hs_10]
      obtain ⟨k, hk, ek⟩ := R.2.1.at (k := 4) (j := a) ⟨by unfold hs_V; omega, by omega, by omega⟩
      have hk : k ≤ 6 := by simpa [hs_bd] using hk
      have ek' : M.1 5 a = nI k := ek
      rw [if_neg (nI_in (c := a) (N := 9) ha (by decide)), nI_clamp (show a < 2 ^ 31 by omega), ek', hs_und k (by omega) t (by omega), hs_of0 R.1 ha, ek]
      simp only [nb_o]
      have e0 : (nI t = 0) = (t = 0) := propext (nI_eq (b := 0) (by omega) (by omega))
      have e1 : (nI t = 1) = (t = 1) := propext (nI_eq (b := 1) (by omega) (by omega))
      have e2 : (nI t = 2) = (t = 2) := propext (nI_eq (b := 2) (by omega) (by omega))
      have e3 : (nI t = nI k) = (t = k) := propext (nI_eq (by omega) (by omega))
      have e4 : (nI k = 4) = (k = 4) := propext (nI_eq (b := 4) (by omega) (by omega))
      have e5 : (nI k = 5) = (k = 5) := propext (nI_eq (b := 5) (by omega) (by omega))
      have y61 : f_X7_as_61 N (nI a) = some (M.1 6 a, N) := by
        unfold f_X7_as_61
        rw [hs_of1 R.1 ha]; rfl
      have key : ∀ X Y : Option (Int32 × nb_M), (if t = 0 then X else if t = k then X else if t = 1 then (if k = 4 then X else if t = 2 then (if k = 5 then X else Y) else Y) else if t = 2 then (if k = 5 then X else Y) else Y) = if t = 0 ∨ t = k ∨ (t = 1 ∧ k = 4) ∨ (t = 2 ∧ k = 5) then X else Y := by
        intro X Y
        repeat' split
        all_goals first | rfl | omega
      unfold f_X7_as_51
      simp only [e0, e1, e2, e3, e4, e5]
      rw [key, y61]
      by_cases u : t = 0 ∨ t = k ∨ (t = 1 ∧ k = 4) ∨ (t = 2 ∧ k = 5)
      · rw [if_pos u, if_pos u, if_neg hs_10]
        exact ⟨_, _, _, rfl, rfl, R⟩
      · rw [if_neg u, if_neg u, if_pos rfl]
        exact hs_e5 R
    · rw [c2, d2, if_pos rfl, if_pos rfl]; exact hs_e1 R
  · rw [c1, d1, if_pos rfl, if_pos rfl]; exact hs_e1 R
theorem s_minds (R : hs_Rel M N) (p0 p1 : Int32) : hs_S (f_X6_minds M p0 p1) (f_X7_minds N p0 p1) := by
  unfold f_X6_minds f_X7_minds
  rcases hs_per R p0 with ⟨c1, d1, i, hi, -, rfl⟩ | ⟨c1, d1⟩
  · rw [c1, d1, if_neg hs_10, if_neg hs_10]
    rcases hs_wi p1 (b := 9) (by decide) (B := 9) rfl with ⟨c2, d2, c, hc, rfl⟩ | ⟨c2, d2⟩
    · rw [c2, d2, if_neg hs_10, if_neg hs_10]
      have x0 : (6 : Int32) + ((3 : Int32) * nI i) = nI (6 + 3 * i) := by rw [show (6 : Int32) = nI 6 from rfl, show (3 : Int32) = nI 3 from rfl, pk_mul, nI_add]
      rw [if_neg (nI_in (c := i) (N := 5) hi (by decide)), x0, hs_becomes (by omega)]
      simp only [nb_n]
      rw [nI_clamp (show i < 2 ^ 31 by omega), R.1.at (k := 1) (j := i) (n := 6 + 3 * i) (by unfold hs_V; omega) (by simp [hs_ps]; omega)]
      refine ⟨_, _, _, rfl, rfl, ?_⟩
      refine R.house (hs_Oc.i (by omega) (by omega)) hs_Od.i ?_ ?_
      · rw [hs_ho1 (k := 1) rfl (by decide) (by decide) (by decide)]
        exact R.1.s1 hi _
      · rw [hs_ho1 (k := 1) rfl (by decide) (by decide) (by decide)]
        exact R.2.1.s (by simp [hs_bd]; omega) (by decide) (by simp)
    · rw [c2, d2, if_pos rfl, if_pos rfl]; exact hs_e1 R
  · rw [c1, d1, if_pos rfl, if_pos rfl]; exact hs_e1 R
theorem s_lend (R : hs_Rel M N) (p0 p1 : Int32) : hs_S (f_X6_lend M p0 p1) (f_X7_lend N p0 p1) := by
  unfold f_X6_lend f_X7_lend
  rcases hs_pie R p0 with ⟨c1, d1, a, ha, -, rfl⟩ | ⟨c1, d1⟩
  · rw [c1, d1, if_neg hs_10, if_neg hs_10]
    rcases hs_per R p1 with ⟨c2, d2, i, hi, hil, rfl⟩ | ⟨c2, d2⟩
    · rw [c2, d2, if_neg hs_10, if_neg hs_10]
      have x0 : ((21 : Int32) + ((4 : Int32) * nI a)) + 2 = nI (21 + 4 * a + 2) := by rw [show (21 : Int32) = nI 21 from rfl, show (4 : Int32) = nI 4 from rfl, pk_mul, nI_add, show (2 : Int32) = nI 2 from rfl, nI_add]
      rw [if_neg (nI_in (c := a) (N := 9) ha (by decide)), x0, hs_becomes (by omega)]
      simp only [nb_n]
      rw [nI_clamp (show a < 2 ^ 31 by omega), R.1.at (k := 6) (j := a) (n := 21 + 4 * a + 2) (by unfold hs_V; omega) (by simp [hs_ps]; omega)]
      refine ⟨_, _, _, rfl, rfl, ?_⟩
      refine R.house (hs_Oc.i (by omega) (by omega)) hs_Od.i ?_ ?_
      · rw [hs_ho1 (k := 6) rfl (by decide) (by decide) (by decide)]
        exact R.1.s6 ha _
      · rw [hs_ho1 (k := 6) rfl (by decide) (by decide) (by decide)]
        exact R.2.1.owner hi hil
    · rw [c2, d2, if_pos rfl, if_pos rfl]; exact hs_e1 R
  · rw [c1, d1, if_pos rfl, if_pos rfl]; exact hs_e1 R
theorem s_wall (R : hs_Rel M N) (p0 p1 : Int32) : hs_S (f_X6_wall M p0 p1) (f_X7_wall N p0 p1) := by
  unfold f_X6_wall f_X7_wall
  rcases hs_pie R p0 with ⟨c1, d1, a, ha, -, rfl⟩ | ⟨c1, d1⟩
  · rw [c1, d1, if_neg hs_10, if_neg hs_10]
    rcases hs_wi p1 (b := 1) (by decide) (B := 1) rfl with ⟨c2, d2, c, hc, rfl⟩ | ⟨c2, d2⟩
    · rw [c2, d2, if_neg hs_10, if_neg hs_10]
      have l3 : ∀ (K : nb_M) (v : Int32), f_X7_lets K (nI a) 3 v = some (nb_i K 1 (21 + 4 * a + 3) v) := fun K v => hs_lets (j := 3) (by omega)
      have e7 : hs_ho 1 M 7 a = M.1 8 a := rfl
      simp only [if_neg (nI_in (c := a) (N := 9) ha (by decide)), l3, hs_of3 R.1 ha, nb_n, nb_o]
      rw [e7, nI_clamp (show a < 2 ^ 31 by omega)]
      have fin : ∀ (v : Nat) (x : Int32), v ≤ 2 → hs_S (some (x, nb_i M 8 a (nI v))) (some (x, nb_i N 1 (21 + 4 * a + 3) (nI v))) := by
        intro v x hv
        refine ⟨_, _, _, rfl, rfl, ?_⟩
        refine R.house (hs_Oc.i (by omega) (by omega)) hs_Od.i ?_ ?_
        · rw [hs_ho1 (k := 7) rfl (by decide) (by decide) (by decide)]
          exact R.1.s7 ha _
        · rw [hs_ho1 (k := 7) rfl (by decide) (by decide) (by decide)]
          exact R.2.1.s (by simp [hs_bd]; omega) (by decide) (by simp)
      by_cases z1 : M.1 8 a = 1
      · rw [if_pos z1, if_pos z1]; exact hs_e3 R
      · rw [if_neg z1, if_neg z1]
        by_cases z2 : M.1 8 a = 2
        · rw [if_pos z2, if_pos z2, if_pos z2]
          by_cases z3 : nI c = 1
          · rw [if_pos z3, if_pos z3]; exact fin 2 1 (by omega)
          · rw [if_neg z3, if_neg z3]; exact fin 0 1 (by omega)
        · rw [if_neg z2, if_neg z2, if_neg z2]
          by_cases z3 : nI c = 1
          · rw [if_pos z3, if_pos z3]; exact fin 2 0 (by omega)
          · rw [if_neg z3, if_neg z3]; exact fin 0 0 (by omega)
    · rw [c2, d2, if_pos rfl, if_pos rfl]; exact hs_e1 R
  · rw [c1, d1, if_pos rfl, if_pos rfl]; exact hs_e1 R
theorem s_risk (R : hs_Rel M N) (p0 p1 : Int32) : hs_S (f_X6_risk M p0 p1) (f_X7_risk N p0 p1) := by
  unfold f_X6_risk f_X7_risk
  rcases hs_pie R p0 with ⟨c1, d1, a, ha, -, rfl⟩ | ⟨c1, d1⟩
  · rw [c1, d1, if_neg hs_10, if_neg hs_10]
    rcases hs_per R p1 with ⟨c2, d2, i, hi, hil, rfl⟩ | ⟨c2, d2⟩
    · rw [c2, d2, if_neg hs_10, if_neg hs_10]
      obtain ⟨M', g1, g2⟩ := hs_cri R.1 R.2.1 ha hi
      obtain ⟨N', g3, g4⟩ := hs_rri R.1 R.2.1 ha hi
      rw [g1, g3]
      exact ⟨_, _, _, rfl, rfl, R.sc g2 g4⟩
    · rw [c2, d2, if_pos rfl, if_pos rfl]; exact hs_e1 R
  · rw [c1, d1, if_pos rfl, if_pos rfl]; exact hs_e1 R
/-- a piece breaks, on both sides -/
theorem hs_brk (R : hs_Rel M N) {a : Nat} (ha : a < 9) : ∃ v M' N', f_X0_breakPiece M (nI a) = some (v, M') ∧ f_X7_breaksDown N (nI a) = some (v, N') ∧ (v = 0 ∨ v = 1) ∧ hs_Rel M' N' := by
  unfold f_X0_breakPiece f_X7_breaksDown
  obtain ⟨o, ho, eo⟩ := hs_own R ha
  have eo' : M.1 7 a = nI o := eo
  have e0 : hs_co (hs_ho 1 M) a (M.1 1 0) = hs_co (hs_ho 1 M) a (hs_ho 1 M 0 0) := rfl
  have x0 : ((6 : Int32) + ((3 : Int32) * nI o)) + 2 = nI (6 + 3 * o + 2) := by rw [show (6 : Int32) = nI 6 from rfl, show (3 : Int32) = nI 3 from rfl, pk_mul, nI_add, show (2 : Int32) = nI 2 from rfl, nI_add]
  have l3 : ∀ (K : nb_M) (v : Int32), f_X7_lets K (nI a) 3 v = some (nb_i K 1 (21 + 4 * a + 3) v) := fun K v => hs_lets (j := 3) (by omega)
  rw [hs_cco R.2.1 ha, hs_rdc R.1 R.2.1 ha, e0, hs_of2 R.1 ha, eo]
  have h01 := hs_co01 (hs_ho 1 M) a (hs_ho 1 M 0 0)
  generalize hs_co (hs_ho 1 M) a (hs_ho 1 M 0 0) = v at h01
  simp only [nb_o, nb_n, l3, x0, if_neg (fun w => w h01 : ¬ ¬ (v = 0 ∨ v = 1)), if_neg (nI_in (c := a) (N := 9) ha (by decide)), if_neg (nI_in (c := 6 + 3 * o + 2) (N := 383) (by omega) (by decide))]
  rw [nI_clamp (show a < 2 ^ 31 by omega), nI_clamp (show 6 + 3 * o + 2 < 2 ^ 31 by omega), eo']
  simp only [if_neg (nI_in (c := o) (N := 5) ho (by decide))]
  rw [nI_clamp (show o < 2 ^ 31 by omega)]
  have eh : N.1 1 (6 + 3 * o + 2) = M.1 4 o := R.1.at (k := 3) (j := o) (by unfold hs_V; omega) (by simp [hs_ps]; omega)
  obtain ⟨x, hx, ex⟩ := R.2.1.at (k := 3) (j := o) ⟨by unfold hs_V; omega, by omega, by omega⟩
  have hx : x ≤ 9999 := by simpa [hs_bd] using hx
  have ex' : M.1 4 o = nI x := ex
  have one : ∀ (R' : hs_HH (hs_ho 1 M) (N.1 1)) (y : Nat), y ≤ 9999 → hs_Rel (nb_i (nb_i M 4 o (nI y)) 8 a 1) (nb_i (nb_i N 1 (6 + 3 * o + 2) (nI y)) 1 (21 + 4 * a + 3) 1) := by
    intro _ y hy
    refine R.house ((hs_Oc.i (by omega) (by omega)).tr (hs_Oc.i (by omega) (by omega))) (hs_Od.i.tr hs_Od.i) ?_ ?_
    · rw [hs_ho2 (k1 := 3) (k2 := 7) rfl rfl (by decide) (by decide)]
      exact (R.1.s3 ho _).s7 ha _
    · rw [hs_ho2 (k1 := 3) (k2 := 7) rfl rfl (by decide) (by decide)]
      exact (R.2.1.s (by simp [hs_bd]; omega) (by decide) (by simp)).s (n := 1) (by simp [hs_bd]) (by decide) (by simp)
  have two : hs_Rel (nb_i M 8 a 1) (nb_i (nb_i N 1 (6 + 3 * o + 2) (nI x)) 1 (21 + 4 * a + 3) 1) := by
    have q : nb_i N 1 (6 + 3 * o + 2) (nI x) = N := by
      have : upd (N.1 1) (6 + 3 * o + 2) (nI x) = N.1 1 := by
        funext j
        by_cases hj : j = 6 + 3 * o + 2
        · subst hj; rw [hs_upd_s, eh, ex']
        · rw [hs_upd_n hj]
      unfold nb_i nb_r
      rw [this]
      refine Prod.ext (funext fun k => ?_) rfl
      show (if k = 1 then N.1 1 else N.1 k) = N.1 k
      split
      · rw [‹k = 1›]
      · rfl
    rw [q]
    refine R.house (hs_Oc.i (by omega) (by omega)) hs_Od.i ?_ ?_
    · rw [hs_ho1 (k := 7) rfl (by decide) (by decide) (by decide)]
      exact R.1.s7 ha _
    · rw [hs_ho1 (k := 7) rfl (by decide) (by decide) (by decide)]
      exact R.2.1.s (n := 1) (by simp [hs_bd]) (by decide) (by simp)
  rw [eh, ex']
  have hd : ∀ y, y ≤ 9999 → f_X7_held (nI y) 0 9999 = nI y := by
    intro y hy
    rw [hs_rhd]
    unfold hs_hd
    rw [if_pos (show (0 : Int32) ≤ nI y from nI_pos' (by omega)), if_pos (show nI y ≤ (9999 : Int32) from nI_le (b := 9999) hy (by decide))]
  by_cases z : v = 0
  · rw [if_pos z, if_pos z, Int32.add_zero, hd x hx]
    exact ⟨_, _, _, rfl, rfl, h01, two⟩
  · rw [if_neg z, if_neg z, nI_1]
    by_cases y : x < 9999
    · rw [if_neg (show ¬ (9999 : Int32) ≤ nI x from nI_ge (b := 9999) y (by decide)), hd (x + 1) (by omega)]
      exact ⟨_, _, _, rfl, rfl, h01, one R.1 (x + 1) (by omega)⟩
    · have : x = 9999 := by omega
      subst this
      rw [if_pos (show (9999 : Int32) ≤ nI 9999 from by decide), show f_X7_held (nI (9999 + 1)) 0 9999 = nI 9999 from by decide]
      exact ⟨_, _, _, rfl, rfl, h01, two⟩
theorem s_drop (R : hs_Rel M N) (p0 : Int32) : hs_S (f_X6_drop M p0) (f_X7_drop N p0) := by
  unfold f_X6_drop f_X7_drop
  rcases hs_pie R p0 with ⟨c1, d1, a, ha, -, rfl⟩ | ⟨c1, d1⟩
  · rw [c1, d1, if_neg hs_10, if_neg hs_10, if_neg (nI_in (c := a) (N := 9) ha (by decide)), hs_of3 R.1 ha, nI_clamp (show a < 2 ^ 31 by omega)]
    simp only [nb_o]
    have e7 : hs_ho 1 M 7 a = M.1 8 a := rfl
    rw [e7]
    by_cases z : M.1 8 a = 0
    · rw [if_pos z, if_pos z]
      obtain ⟨v, M', N', g1, g2, g3, g4⟩ := hs_brk R ha
      rw [g1, g2]
      simp only [nb_p]
      rw [hs_bit g3]
      rcases g3 with g3 | g3
      · rw [if_pos g3, g3]; exact ⟨_, _, _, rfl, rfl, g4⟩
      · rw [g3, if_neg hs_10]; exact ⟨_, _, _, rfl, rfl, g4⟩
    · rw [if_neg z, if_neg z]; exact hs_e3 R
  · rw [c1, d1, if_pos rfl, if_pos rfl]; exact hs_e1 R
end HSM
