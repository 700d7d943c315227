/-! text: a row of parts with signs between them -/
theorem tx_loop {M0 N0 : nb_M} {z u : Nat} (E : tx_E M0 N0 z u) {l o : Nat} (hl : l < 5) {rc : Nat → nb_M → Int32 → Int32 → Option (Int32 × nb_M)} {sub : nb_M → Option nb_M} {G : Nat → nb_M → Option nb_M}
    (hsub : ∀ a s M N, tx_P M0 N0 z a s o M N → tx_Q M0 N0 z a s o 0 (M.1 36) (rc 0 M (nI (l + 1)) (nI o)) (sub N))
    (hG0 : ∀ n N, N.1 0 14 = 1 → G (n + 1) N = some N)
    (hG1 : ∀ n N r, N.1 0 14 = 0 → f_X7_look N = some r → G (n + 1) N = if f_X1_levelOf r = nI l then (nb_o (sub (nb_i N 0 12 (N.1 0 12 + 1))) fun N6 => nb_o (f_X7_lays N6 r 0) fun N7 => G n N7) else some N) :
    ∀ t i n m a s M N r, i + t = 61 → t ≤ n → t ≤ m → i ≤ a → tx_P M0 N0 z a s o M N → f_X1_next M = some r → f_X7_look N = some r → (r ≠ -1 → a < z) → tx_Q M0 N0 z a s o 1 (M.1 36) (f_X1_readsLevel_50 rc n M (nI l) (nI o) 60 r (nI i)) (G m N) := by
  have hz : z ≤ 60 := E.1
  intro t
  induction t with
  | zero =>
    intro i n m a s M N r hi _ _ ha P
    obtain ⟨p1, p2, p3, p4, p5, p6, p7, p8, p9, p10, p11⟩ := P
    omega
  | succ t ih =>
    intro i n m a s M N r hi hn hm ha P c1 c2 c3
    obtain ⟨n, rfl⟩ : ∃ q, n = q + 1 := ⟨n - 1, by omega⟩
    obtain ⟨m, rfl⟩ : ∃ q, m = q + 1 := ⟨m - 1, by omega⟩
    have P' := P
    obtain ⟨p1, p2, p3, p4, p5, p6, p7, p8, p9, p10, p11⟩ := P'
    rw [f_X1_readsLevel_50, hG1 m N r p10 c2]
    by_cases hi60 : i = 60
    · subst hi60
      have hr : r = -1 := Classical.byContradiction fun w => by have := c3 w; omega
      subst hr
      rw [if_pos (show (60 : Int32) ≤ nI 60 from nI_le (a := 60) (Nat.le_refl _) (by decide)), if_neg (fun w => (tx_op hl w).2.2 rfl)]
      exact ⟨M, N, rfl, Or.inl ⟨rfl, a, s, P, Nat.le_refl _, Nat.le_of_eq (by omega), fun d h => h⟩⟩
    · rw [if_neg (show ¬ (60 : Int32) ≤ nI i from nI_ge (b := 60) (by omega) (by decide))]
      by_cases hv : f_X1_levelOf r = nI l
      · rw [if_pos hv, if_pos hv]
        obtain ⟨o1, o2, o3⟩ := tx_op hl hv
        have P1 := tx_at P (c3 o3) hz
        obtain ⟨M1, N1, y1, q⟩ := hsub _ _ _ _ P1
        have hf : (nb_i M 35 2 (M.1 35 2 + 1)).1 36 = M.1 36 := hs_gi (by decide)
        rw [hf] at q
        rw [hs_nn, nI_1 l, y1, hs_oo]
        rcases q with ⟨x1, a1, s1, P1, l1, l2, hd⟩ | ⟨x1, B1⟩
        · rw [x1, hs_op, if_neg hs_10]
          have pb : s1 ≤ a1 ∧ a1 ≤ z := ⟨P1.2.2.2.2.2.2.1, P1.2.2.2.2.2.2.2.1⟩
          obtain ⟨M2, N2, x2, y2, P2, hd2⟩ := tx_step hz P1 (x := 20000 + r) (p := r) (q := 0) (by omega) o1
          obtain ⟨r2, d1, d2, d3⟩ := tx_look E P2
          rw [x2, hs_oo, d1, hs_oo, y2, hs_oo, nI_1]
          obtain ⟨M3, N3, y3, q3⟩ := ih (i + 1) n m a1 (s1 + 1) M2 N2 r2 (by omega) (by omega) (by omega) (by omega) P2 d1 d2 d3
          refine ⟨M3, N3, y3, ?_⟩
          rcases q3 with ⟨x3, a3, s3, P3, l3, l4, hd3⟩ | ⟨x3, B3⟩
          · refine Or.inl ⟨x3, a3, s3, P3, by omega, by omega, fun d h => ?_⟩
            exact hd3 d (hd2 _ _ (hd (d + 1) h) (o2 d))
          · exact Or.inr ⟨x3, B3⟩
        · rw [x1, hs_op, if_pos rfl]
          obtain ⟨N2, y2, B2⟩ := tx_laysB B1 r 0
          obtain ⟨m, rfl⟩ : ∃ q, m = q + 1 := ⟨m - 1, by omega⟩
          rw [y2, hs_oo, hG0 m N2 B2.2.2.1]
          exact ⟨M1, N2, rfl, Or.inr ⟨rfl, B2⟩⟩
      · rw [if_neg hv, if_neg hv]
        exact ⟨M, N, rfl, Or.inl ⟨rfl, a, s, P, Nat.le_refl _, Nat.le_of_eq (by omega), fun d h => h⟩⟩
theorem tx_level {M0 N0 : nb_M} {z u : Nat} (E : tx_E M0 N0 z u) {l o : Nat} (hl : l < 5) (h2 : l ≠ 2) (ho : o ≤ 5) {rc : Nat → nb_M → Int32 → Int32 → Option (Int32 × nb_M)} {sub : nb_M → Option nb_M} {G : Nat → nb_M → Option nb_M}
    (hsub : ∀ a s M N, tx_P M0 N0 z a s o M N → tx_Q M0 N0 z a s o 0 (M.1 36) (rc 0 M (nI (l + 1)) (nI o)) (sub N))
    (hG0 : ∀ n N, N.1 0 14 = 1 → G (n + 1) N = some N)
    (hG1 : ∀ n N r, N.1 0 14 = 0 → f_X7_look N = some r → G (n + 1) N = if f_X1_levelOf r = nI l then (nb_o (sub (nb_i N 0 12 (N.1 0 12 + 1))) fun N6 => nb_o (f_X7_lays N6 r 0) fun N7 => G n N7) else some N)
    {a s : Nat} {M N : nb_M} (P : tx_P M0 N0 z a s o M N) : tx_Q M0 N0 z a s o 0 (M.1 36) (f_X1_readsLevel rc M (nI l) (nI o)) (nb_o (sub N) fun N1 => G nb_F N1) := by
  have hz : z ≤ 60 := E.1
  unfold f_X1_readsLevel
  rw [if_pos (show nI l < (5 : Int32) from nI_lt (b := 5) hl (by decide)), if_neg (show ¬ (5 : Int32) < nI o from nI_nlt (b := o) (a := 5) ho (by decide))]
  obtain ⟨M1, N1, y1, q⟩ := hsub _ _ _ _ P
  rw [nI_1, y1, hs_oo]
  rcases q with ⟨x1, a1, s1, P1, l1, l2, hd⟩ | ⟨x1, B1⟩
  · obtain ⟨r, d1, d2, d3⟩ := tx_look E P1
    rw [x1, hs_op, if_neg hs_10, if_neg (show ¬ nI l = (2 : Int32) from fun w => h2 ((nI_eq (a := l) (b := 2) (by omega) (by decide)).mp w)), d1, hs_oo]
    obtain ⟨M2, N2, y2, q2⟩ := tx_loop E hl hsub hG0 hG1 61 0 nb_F nb_F a1 s1 M1 N1 r rfl (by have := hs_F; omega) (by have := hs_F; omega) (Nat.zero_le _) P1 d1 d2 d3
    refine ⟨M2, N2, y2, ?_⟩
    rcases q2 with ⟨x3, a3, s3, P3, l3, l4, hd3⟩ | ⟨x3, B3⟩
    · exact Or.inl ⟨x3, a3, s3, P3, by omega, by omega, fun d h => hd3 d (hd d h)⟩
    · exact Or.inr ⟨x3, B3⟩
  · rw [x1, hs_op, if_pos rfl]
    obtain ⟨f, hf⟩ : ∃ f, nb_F = f + 1 := ⟨999, rfl⟩
    rw [hf, hG0 f N1 B1.2.2.1]
    exact ⟨M1, N1, rfl, Or.inr ⟨rfl, B1⟩⟩
/-- at most one sign -/
theorem tx_cmp {M0 N0 : nb_M} {z u : Nat} (E : tx_E M0 N0 z u) {o : Nat} (ho : o ≤ 5) {rc : Nat → nb_M → Int32 → Int32 → Option (Int32 × nb_M)} {rc' : Nat → nb_M → Int32 → Option nb_M}
    (hsub : ∀ a s M N, tx_P M0 N0 z a s o M N → tx_Q M0 N0 z a s o 0 (M.1 36) (rc 0 M (nI (2 + 1)) (nI o)) (rc' 3 N 0))
    {a s : Nat} {M N : nb_M} (P : tx_P M0 N0 z a s o M N) : tx_Q M0 N0 z a s o 0 (M.1 36) (f_X1_readsLevel rc M (nI 2) (nI o)) (f_X7_compares rc' N) := by
  have hz : z ≤ 60 := E.1
  unfold f_X1_readsLevel f_X7_compares
  rw [if_pos (show nI 2 < (5 : Int32) by decide), if_neg (show ¬ (5 : Int32) < nI o from nI_nlt (b := o) (a := 5) ho (by decide))]
  obtain ⟨M1, N1, y1, q⟩ := hsub _ _ _ _ P
  rw [nI_1, y1, hs_oo]
  rcases q with ⟨x1, a1, s1, P1, l1, l2, hd⟩ | ⟨x1, B1⟩
  · obtain ⟨r, d1, d2, d3⟩ := tx_look E P1
    obtain ⟨f, hf⟩ : ∃ f, nb_F = f + 1 + 1 := ⟨998, rfl⟩
    have b0 : N1.1 0 14 = 0 := P1.2.2.2.2.2.2.2.2.2.1
    rw [x1, hs_op, if_neg hs_10, if_pos (show nI 2 = (2 : Int32) from rfl), d1, hs_oo, d2, hs_oo, if_pos b0, hf, f_X1_readsLevel_50, if_neg (show ¬ (1 : Int32) ≤ 0 by decide)]
    have ey : (if r = 60 then f_X7_compares_34 rc' N1 r else if r = 61 then f_X7_compares_34 rc' N1 r else if r = 62 then f_X7_compares_34 rc' N1 r else some N1) = if f_X1_levelOf r = nI 2 then f_X7_compares_34 rc' N1 r else some N1 := by
      rcases tx_lv r with ⟨e, g⟩ | ⟨e, g⟩ | ⟨e, g | g | g⟩ | ⟨e, g | g⟩ | ⟨e, g | g | g⟩ | ⟨e, g1, g2, g3, g4, g5, g6⟩
      all_goals first
        | (subst g; rfl)
        | (rw [e, if_neg g3, if_neg g4, if_neg g5]; rfl)
    rw [ey]
    by_cases hv : f_X1_levelOf r = nI 2
    · rw [if_pos hv, if_pos hv]
      obtain ⟨o1, o2, o3⟩ := tx_op (by decide) hv
      have P2 := tx_at P1 (d3 o3) hz
      obtain ⟨M2, N2, y2, q⟩ := hsub _ _ _ _ P2
      have hf : (nb_i M1 35 2 (M1.1 35 2 + 1)).1 36 = M1.1 36 := hs_gi (by decide)
      rw [hf] at q
      unfold f_X7_compares_34
      rw [hs_nn, hs_nn, nI_1, y2, hs_oo]
      rcases q with ⟨x2, a2, s2, P2, l3, l4, hd2⟩ | ⟨x2, B2⟩
      · rw [x2, hs_op, if_neg hs_10]
        have pb : s1 ≤ a1 ∧ a1 ≤ z := ⟨P1.2.2.2.2.2.2.1, P1.2.2.2.2.2.2.2.1⟩
        have pb2 : s2 ≤ a2 ∧ a2 ≤ z := ⟨P2.2.2.2.2.2.2.1, P2.2.2.2.2.2.2.2.1⟩
        obtain ⟨M3, N3, x3, y3, P3, hd3⟩ := tx_step hz P2 (x := 20000 + r) (p := r) (q := 0) (by omega) o1
        obtain ⟨r2, g1, g2, g3⟩ := tx_look E P3
        rw [x3, hs_oo, g1, hs_oo, y3, hs_oo, f_X1_readsLevel_50, if_pos (show (1 : Int32) ≤ 0 + 1 by decide)]
        refine ⟨M3, N3, rfl, Or.inl ⟨rfl, a2, s2 + 1, P3, by omega, by omega, fun d h => ?_⟩⟩
        exact hd3 _ _ (hd2 (d + 1) (hd d h)) (o2 d)
      · rw [x2, hs_op, if_pos rfl]
        obtain ⟨N3, y3, B3⟩ := tx_laysB B2 r 0
        rw [y3, hs_oo]
        exact ⟨M2, N3, rfl, Or.inr ⟨rfl, B3⟩⟩
    · rw [if_neg hv, if_neg hv]
      exact ⟨M1, N1, rfl, Or.inl ⟨rfl, a1, s1, P1, by omega, by omega, fun d h => hd d h⟩⟩
  · rw [x1, hs_op, if_pos rfl]
    obtain ⟨r, d1⟩ := tx_lookB E B1
    rw [d1, hs_oo, B1.2.2.1, if_neg hs_10]
    exact ⟨M1, N1, rfl, Or.inr ⟨rfl, B1⟩⟩
/-! the reference's four loops -/
section TXG
variable {rc : Nat → nb_M → Int32 → Option nb_M}
theorem tx_any0 (n : Nat) (N : nb_M) (h : N.1 0 14 = 1) : f_X7_any_4 rc (n + 1) N = some N := by rw [f_X7_any_4, h, if_neg hs_10]
theorem tx_all0 (n : Nat) (N : nb_M) (h : N.1 0 14 = 1) : f_X7_all_4 rc (n + 1) N = some N := by rw [f_X7_all_4, h, if_neg hs_10]
theorem tx_sum0 (n : Nat) (N : nb_M) (h : N.1 0 14 = 1) : f_X7_sum_4 rc (n + 1) N = some N := by rw [f_X7_sum_4, h, if_neg hs_10]
theorem tx_times0 (n : Nat) (N : nb_M) (h : N.1 0 14 = 1) : f_X7_times_4 rc (n + 1) N = some N := by rw [f_X7_times_4, h, if_neg hs_10]
theorem tx_any1 (n : Nat) (N : nb_M) (r : Int32) (h : N.1 0 14 = 0) (g : f_X7_look N = some r) : f_X7_any_4 rc (n + 1) N = if f_X1_levelOf r = nI 0 then (nb_o (rc 1 (nb_i N 0 12 (N.1 0 12 + 1)) 0) fun N6 => nb_o (f_X7_lays N6 r 0) fun N7 => f_X7_any_4 rc n N7) else some N := by
  rw [f_X7_any_4, h, if_pos rfl, g, hs_oo, hs_nn]
  rcases tx_lv r with ⟨e, w⟩ | ⟨e, w⟩ | ⟨e, w | w | w⟩ | ⟨e, w | w⟩ | ⟨e, w | w | w⟩ | ⟨e, g1, g2, g3, g4, g5, g6, g7, g8, g9, g10⟩
  all_goals first
    | (rw [if_pos w, e, if_pos (show (0 : Int32) = nI 0 from rfl), w]; done)
    | (rw [e, if_neg (show ¬ r = 124 by first | (subst w; decide) | exact g1), if_neg (by decide)]; done)
theorem tx_all1 (n : Nat) (N : nb_M) (r : Int32) (h : N.1 0 14 = 0) (g : f_X7_look N = some r) : f_X7_all_4 rc (n + 1) N = if f_X1_levelOf r = nI 1 then (nb_o (rc 2 (nb_i N 0 12 (N.1 0 12 + 1)) 0) fun N6 => nb_o (f_X7_lays N6 r 0) fun N7 => f_X7_all_4 rc n N7) else some N := by
  rw [f_X7_all_4, h, if_pos rfl, g, hs_oo, hs_nn]
  rcases tx_lv r with ⟨e, w⟩ | ⟨e, w⟩ | ⟨e, w | w | w⟩ | ⟨e, w | w⟩ | ⟨e, w | w | w⟩ | ⟨e, g1, g2, g3, g4, g5, g6, g7, g8, g9, g10⟩
  all_goals first
    | (rw [if_pos w, e, if_pos (show (1 : Int32) = nI 1 from rfl), w]; done)
    | (rw [e, if_neg (show ¬ r = 38 by first | (subst w; decide) | exact g2), if_neg (by decide)]; done)
theorem tx_sum1 (n : Nat) (N : nb_M) (r : Int32) (h : N.1 0 14 = 0) (g : f_X7_look N = some r) : f_X7_sum_4 rc (n + 1) N = if f_X1_levelOf r = nI 3 then (nb_o (rc 4 (nb_i N 0 12 (N.1 0 12 + 1)) 0) fun N6 => nb_o (f_X7_lays N6 r 0) fun N7 => f_X7_sum_4 rc n N7) else some N := by
  rw [f_X7_sum_4, h, if_pos rfl, g, hs_oo, hs_oo, hs_nn, hs_oo]
  rcases tx_lv r with ⟨e, w⟩ | ⟨e, w⟩ | ⟨e, w | w | w⟩ | ⟨e, w | w⟩ | ⟨e, w | w | w⟩ | ⟨e, g1, g2, g3, g4, g5, g6, g7, g8, g9, g10⟩
  all_goals first
    | (rw [if_pos w, e, if_pos (show (3 : Int32) = nI 3 from rfl)]; done)
    | (rw [if_neg (show ¬ r = 43 by first | (subst w; decide) | exact g6), if_pos w, e, if_pos (show (3 : Int32) = nI 3 from rfl)]; done)
    | (rw [e, if_neg (show ¬ r = 43 by first | (subst w; decide) | exact g6), if_neg (show ¬ r = 45 by first | (subst w; decide) | exact g7), if_neg (by decide)]; done)
theorem tx_times1 (n : Nat) (N : nb_M) (r : Int32) (h : N.1 0 14 = 0) (g : f_X7_look N = some r) : f_X7_times_4 rc (n + 1) N = if f_X1_levelOf r = nI 4 then (nb_o (rc 5 (nb_i N 0 12 (N.1 0 12 + 1)) 0) fun N6 => nb_o (f_X7_lays N6 r 0) fun N7 => f_X7_times_4 rc n N7) else some N := by
  rw [f_X7_times_4, h, if_pos rfl, g, hs_oo, hs_oo, hs_nn, hs_oo, hs_oo]
  rcases tx_lv r with ⟨e, w⟩ | ⟨e, w⟩ | ⟨e, w | w | w⟩ | ⟨e, w | w⟩ | ⟨e, w | w | w⟩ | ⟨e, g1, g2, g3, g4, g5, g6, g7, g8, g9, g10⟩
  all_goals first
    | (rw [if_pos w, e, if_pos (show (4 : Int32) = nI 4 from rfl)]; done)
    | (rw [if_neg (show ¬ r = 42 by first | (subst w; decide) | exact g8), if_pos w, e, if_pos (show (4 : Int32) = nI 4 from rfl)]; done)
    | (rw [if_neg (show ¬ r = 42 by first | (subst w; decide) | exact g8), if_neg (show ¬ r = 47 by first | (subst w; decide) | exact g9), if_pos w, e, if_pos (show (4 : Int32) = nI 4 from rfl)]; done)
    | (rw [e, if_neg (show ¬ r = 42 by first | (subst w; decide) | exact g8), if_neg (show ¬ r = 47 by first | (subst w; decide) | exact g9), if_neg (show ¬ r = 37 by first | (subst w; decide) | exact g10), if_neg (by decide)]; done)
end TXG
