/-! text: parts within brackets -/
theorem tx_RD0 (d : Nat) (M : nb_M) (a b : Int32) : f_RD (d + 1) 0 M a b = f_X1_readsLevel (f_RD d) M a b := by rw [f_RD, if_pos rfl]
theorem tx_RD1 (d : Nat) (M : nb_M) (a b : Int32) : f_RD (d + 1) 1 M a b = f_X1_readsOne (f_RD d) M a := by rw [f_RD, if_neg (by decide), if_pos rfl]
theorem tx_RD2 (d : Nat) (M : nb_M) (a b : Int32) : f_RD (d + 1) 2 M a b = f_X1_readsNot (f_RD d) M a := by rw [f_RD, if_neg (by decide), if_neg (by decide), if_pos rfl]
theorem tx_RD3 (d : Nat) (M : nb_M) (a b : Int32) : f_RD (d + 1) 3 M a b = f_X1_readsBraced (f_RD d) M a := by rw [f_RD, if_neg (by decide), if_neg (by decide), if_neg (by decide), if_pos rfl]
theorem tx_MP0 (d : Nat) (M : nb_M) (a : Int32) : f_MP (d + 1) 0 M a = f_X7_any (f_MP d) M := by rw [f_MP, if_pos rfl]
theorem tx_MP1 (d : Nat) (M : nb_M) (a : Int32) : f_MP (d + 1) 1 M a = f_X7_all (f_MP d) M := by rw [f_MP, if_neg (by decide), if_pos rfl]
theorem tx_MP2 (d : Nat) (M : nb_M) (a : Int32) : f_MP (d + 1) 2 M a = f_X7_compares (f_MP d) M := by rw [f_MP, if_neg (by decide), if_neg (by decide), if_pos rfl]
theorem tx_MP3 (d : Nat) (M : nb_M) (a : Int32) : f_MP (d + 1) 3 M a = f_X7_sum (f_MP d) M := by rw [f_MP, if_neg (by decide), if_neg (by decide), if_neg (by decide), if_pos rfl]
theorem tx_MP4 (d : Nat) (M : nb_M) (a : Int32) : f_MP (d + 1) 4 M a = f_X7_times (f_MP d) M := by rw [f_MP, if_neg (by decide), if_neg (by decide), if_neg (by decide), if_neg (by decide), if_pos rfl]
theorem tx_MP5 (d : Nat) (M : nb_M) (a : Int32) : f_MP (d + 1) 5 M a = f_X7_one (f_MP d) M := by rw [f_MP, if_neg (by decide), if_neg (by decide), if_neg (by decide), if_neg (by decide), if_neg (by decide), if_pos rfl]
theorem tx_MP6 (d : Nat) (M : nb_M) (a : Int32) : f_MP (d + 1) 6 M a = f_X7_opens (f_MP d) M a := by rw [f_MP, if_neg (by decide), if_neg (by decide), if_neg (by decide), if_neg (by decide), if_neg (by decide), if_neg (by decide), if_pos rfl]
/-- level l of o brackets, s' the class's, t' the reference's -/
def tx_L (M0 N0 : nb_M) (z o l t' : Nat) (D E : Nat) : Prop := ∀ d e, D ≤ d → E ≤ e → ∀ a s M N, tx_P M0 N0 z a s o M N → tx_Q M0 N0 z a s o 0 (M.1 36) (f_RD d 0 M (nI l) (nI o)) (f_MP e t' N 0)
def tx_1 (M0 N0 : nb_M) (z o : Nat) (D E : Nat) : Prop := ∀ d e, D ≤ d → E ≤ e → ∀ a s M N, tx_P M0 N0 z a s o M N → tx_Q M0 N0 z a s o 0 (M.1 36) (f_RD d 1 M (nI o) 0) (f_MP e 5 N 0)
section TXL
variable {M0 N0 : nb_M} {z u o D E' : Nat}
theorem tx_l5 (h : tx_1 M0 N0 z o D E') : tx_L M0 N0 z o 5 5 (D + 1) E' := by
  intro d e hd he a s M N P
  obtain ⟨d, rfl⟩ : ∃ q, d = q + 1 := ⟨d - 1, by omega⟩
  obtain ⟨M', N', y, q⟩ := h d e (by omega) he a s M N P
  refine ⟨M', N', y, ?_⟩
  rw [tx_RD0]
  unfold f_X1_readsLevel
  rw [if_neg (show ¬ nI 5 < (5 : Int32) by decide)]
  rcases q with ⟨x, q⟩ | ⟨x, q⟩
  · exact Or.inl ⟨by rw [x, hs_op, if_neg (fun w => w (Or.inr rfl))], q⟩
  · exact Or.inr ⟨by rw [x, hs_op, if_neg (fun w => w (Or.inl rfl))], q⟩
theorem tx_l4 (E : tx_E M0 N0 z u) (ho : o ≤ 5) (h : tx_L M0 N0 z o 5 5 D E') : tx_L M0 N0 z o 4 4 (D + 1) (E' + 1) := by
  intro d e hd he a s M N P
  obtain ⟨d, rfl⟩ : ∃ q, d = q + 1 := ⟨d - 1, by omega⟩
  obtain ⟨e, rfl⟩ : ∃ q, e = q + 1 := ⟨e - 1, by omega⟩
  rw [tx_RD0, tx_MP4]
  unfold f_X7_times
  exact tx_level E (l := 4) (by decide) (by decide) ho (sub := fun N => f_MP e 5 N 0) (G := f_X7_times_4 (f_MP e)) (fun a s M N P => h d e (by omega) (by omega) a s M N P) tx_times0 tx_times1 P
theorem tx_l3 (E : tx_E M0 N0 z u) (ho : o ≤ 5) (h : tx_L M0 N0 z o 4 4 D E') : tx_L M0 N0 z o 3 3 (D + 1) (E' + 1) := by
  intro d e hd he a s M N P
  obtain ⟨d, rfl⟩ : ∃ q, d = q + 1 := ⟨d - 1, by omega⟩
  obtain ⟨e, rfl⟩ : ∃ q, e = q + 1 := ⟨e - 1, by omega⟩
  rw [tx_RD0, tx_MP3]
  unfold f_X7_sum
  exact tx_level E (l := 3) (by decide) (by decide) ho (sub := fun N => f_MP e 4 N 0) (G := f_X7_sum_4 (f_MP e)) (fun a s M N P => h d e (by omega) (by omega) a s M N P) tx_sum0 tx_sum1 P
theorem tx_l2 (E : tx_E M0 N0 z u) (ho : o ≤ 5) (h : tx_L M0 N0 z o 3 3 D E') : tx_L M0 N0 z o 2 2 (D + 1) (E' + 1) := by
  intro d e hd he a s M N P
  obtain ⟨d, rfl⟩ : ∃ q, d = q + 1 := ⟨d - 1, by omega⟩
  obtain ⟨e, rfl⟩ : ∃ q, e = q + 1 := ⟨e - 1, by omega⟩
  rw [tx_RD0, tx_MP2]
  exact tx_cmp E ho (fun a s M N P => h d e (by omega) (by omega) a s M N P) P
theorem tx_l1 (E : tx_E M0 N0 z u) (ho : o ≤ 5) (h : tx_L M0 N0 z o 2 2 D E') : tx_L M0 N0 z o 1 1 (D + 1) (E' + 1) := by
  intro d e hd he a s M N P
  obtain ⟨d, rfl⟩ : ∃ q, d = q + 1 := ⟨d - 1, by omega⟩
  obtain ⟨e, rfl⟩ : ∃ q, e = q + 1 := ⟨e - 1, by omega⟩
  rw [tx_RD0, tx_MP1]
  unfold f_X7_all
  exact tx_level E (l := 1) (by decide) (by decide) ho (sub := fun N => f_MP e 2 N 0) (G := f_X7_all_4 (f_MP e)) (fun a s M N P => h d e (by omega) (by omega) a s M N P) tx_all0 tx_all1 P
theorem tx_l0 (E : tx_E M0 N0 z u) (ho : o ≤ 5) (h : tx_L M0 N0 z o 1 1 D E') : tx_L M0 N0 z o 0 0 (D + 1) (E' + 1) := by
  intro d e hd he a s M N P
  obtain ⟨d, rfl⟩ : ∃ q, d = q + 1 := ⟨d - 1, by omega⟩
  obtain ⟨e, rfl⟩ : ∃ q, e = q + 1 := ⟨e - 1, by omega⟩
  rw [tx_RD0, tx_MP0]
  unfold f_X7_any
  exact tx_level E (l := 0) (by decide) (by decide) ho (sub := fun N => f_MP e 1 N 0) (G := f_X7_any_4 (f_MP e)) (fun a s M N P => h d e (by omega) (by omega) a s M N P) tx_any0 tx_any1 P
theorem tx_up (E : tx_E M0 N0 z u) (ho : o ≤ 5) (h : tx_1 M0 N0 z o D E') : tx_L M0 N0 z o 0 0 (D + 6) (E' + 5) := tx_l0 E ho (tx_l1 E ho (tx_l2 E ho (tx_l3 E ho (tx_l4 E ho (tx_l5 h)))))
end TXL
section TXO
variable {M0 N0 M N : nb_M} {z u a s o : Nat}
/-- one bracket more, one bracket less -/
theorem tx_open (P : tx_P M0 N0 z a s o M N) (h : a < z) (hz : z ≤ 60) : tx_P M0 N0 z (a + 1) s (o + 1) (nb_i M 35 2 (M.1 35 2 + 1)) (nb_i (nb_i N 0 13 (N.1 0 13 + 1)) 0 12 ((nb_i N 0 13 (N.1 0 13 + 1)).1 0 12 + 1)) := by
  have P1 : tx_P M0 N0 z a s (o + 1) M (nb_i N 0 13 (N.1 0 13 + 1)) := by
    obtain ⟨p1, p2, p3, p4, p5, p6, p7, p8, p9, p10, p11⟩ := P
    refine ⟨p1, p2.tr (tx_D.i (by omega)), p3, ?_, p5, ?_, p7, p8, ?_, ?_, p11⟩
    · rw [tx_n (by decide)]; exact p4
    · rw [tx_n (by decide)]; exact p6
    · rw [tx_s, p9, nI_1]
    · rw [tx_n (by decide)]; exact p10
  exact tx_at P1 h hz
theorem tx_shut (P : tx_P M0 N0 z a s (o + 1) M N) : tx_P M0 N0 z a s o M (nb_i N 0 13 (N.1 0 13 - 1)) := by
  obtain ⟨p1, p2, p3, p4, p5, p6, p7, p8, p9, p10, p11⟩ := P
  refine ⟨p1, p2.tr (tx_D.i (by omega)), p3, ?_, p5, ?_, p7, p8, ?_, ?_, p11⟩
  · rw [tx_n (by decide)]; exact p4
  · rw [tx_n (by decide)]; exact p6
  · rw [tx_s, p9, nI_pred]
  · rw [tx_n (by decide)]; exact p10
theorem tx_shutB (P : tx_B M0 N0 z M N) (v : Int32) : tx_B M0 N0 z M (nb_i N 0 13 v) := by
  obtain ⟨p1, p2, p3, a, s, h1, h2, h3, h4, h5⟩ := P
  refine ⟨p1, p2.tr (tx_D.i (by omega)), ?_, a, s, h1, h2, h3, ?_, ?_⟩
  · rw [tx_n (by decide)]; exact p3
  · rw [tx_n (by decide)]; exact h4
  · rw [tx_n (by decide)]; exact h5
theorem tx_badB (P : tx_B M0 N0 z M N) : tx_B M0 N0 z M (nb_i N 0 14 1) := by
  obtain ⟨p1, p2, p3, a, s, h1, h2, h3, h4, h5⟩ := P
  refine ⟨p1, p2.tr (tx_D.i (by omega)), tx_s, a, s, h1, h2, h3, ?_, ?_⟩
  · rw [tx_n (by decide)]; exact h4
  · rw [tx_n (by decide)]; exact h5
theorem tx_stayB (P : tx_B M0 N0 z M N) : tx_B M0 N0 z M (nb_i N 0 12 (N.1 0 12 + 0)) := by
  obtain ⟨p1, p2, p3, a, s, h1, h2, h3, h4, h5⟩ := P
  refine ⟨p1, p2.tr (tx_D.i (by omega)), ?_, a, s, h1, h2, h3, ?_, ?_⟩
  · rw [tx_n (by decide)]; exact p3
  · rw [tx_s, Int32.add_zero]; exact h4
  · rw [tx_n (by decide)]; exact h5
theorem tx_good0 (P : tx_P M0 N0 z a s o M N) : tx_P M0 N0 z a s o M (nb_i N 0 14 0) := by
  obtain ⟨p1, p2, p3, p4, p5, p6, p7, p8, p9, p10, p11⟩ := P
  refine ⟨p1, p2.tr (tx_D.i (by omega)), p3, ?_, p5, ?_, p7, p8, ?_, tx_s, p11⟩
  · rw [tx_n (by decide)]; exact p4
  · rw [tx_n (by decide)]; exact p6
  · rw [tx_n (by decide)]; exact p9
/-- not -/
theorem tx_not (E : tx_E M0 N0 z u) {d e : Nat} (h : tx_1 M0 N0 z (o + 1) d e) (ho : o < 5) (P : tx_P M0 N0 z a s o M N) (haz : a < z) : tx_Q M0 N0 z a s o 0 (M.1 36) (f_X1_readsNot (f_RD d) M (nI (o + 1))) (f_X7_opens (f_MP e) N 33) := by
  have hz : z ≤ 60 := E.1
  unfold f_X1_readsNot f_X7_opens
  have e13 : N.1 0 13 = nI o := P.2.2.2.2.2.2.2.2.1
  rw [if_neg (show ¬ N.1 0 13 = 5 by rw [e13]; exact fun w => by have := (nI_eq (a := o) (b := 5) (by omega) (by decide)).mp w; omega), hs_nn, hs_nn, hs_nn, if_pos rfl]
  obtain ⟨M1, N1, y1, q⟩ := h d e (Nat.le_refl _) (Nat.le_refl _) _ _ _ _ (tx_open P haz hz)
  rw [hs_gi (by decide)] at q
  rw [y1, hs_oo]
  have p7 : s ≤ a := P.2.2.2.2.2.2.1
  rcases q with ⟨x1, a1, s1, P1, l1, l2, hd⟩ | ⟨x1, B1⟩
  · have pb : s1 ≤ a1 ∧ a1 ≤ z := ⟨P1.2.2.2.2.2.2.1, P1.2.2.2.2.2.2.2.1⟩
    obtain ⟨M2, N2, x2, y2, P2, hd2⟩ := tx_step hz P1 (x := 20033) (p := 3) (q := 0) (by omega) (Or.inr (Or.inr (Or.inl ⟨rfl, rfl⟩)))
    rw [x1, hs_op, if_neg hs_10, x2, hs_oo, y2, hs_oo, hs_nn]
    refine ⟨M2, _, rfl, Or.inl ⟨rfl, a1, s1 + 1, tx_shut P2, by omega, by omega, fun d h => ?_⟩⟩
    exact hd2 _ _ (hd d h) (Or.inr (Or.inl ⟨rfl, by omega, rfl⟩))
  · obtain ⟨N2, y2, B2⟩ := tx_laysB B1 3 0
    rw [x1, hs_op, if_pos rfl, y2, hs_oo, hs_nn]
    exact ⟨M1, _, rfl, Or.inr ⟨rfl, tx_shutB B2 _⟩⟩
/-- in brackets -/
theorem tx_brace (E : tx_E M0 N0 z u) {d e : Nat} (h : tx_L M0 N0 z (o + 1) 0 0 d e) (ho : o < 5) (P : tx_P M0 N0 z a s o M N) (haz : a < z) : tx_Q M0 N0 z a s o 0 (M.1 36) (f_X1_readsBraced (f_RD d) M (nI (o + 1))) (f_X7_opens (f_MP e) N 40) := by
  have hz : z ≤ 60 := E.1
  unfold f_X1_readsBraced f_X7_opens
  have e13 : N.1 0 13 = nI o := P.2.2.2.2.2.2.2.2.1
  rw [if_neg (show ¬ N.1 0 13 = 5 by rw [e13]; exact fun w => by have := (nI_eq (a := o) (b := 5) (by omega) (by decide)).mp w; omega), hs_nn, hs_nn, hs_nn, if_neg (show ¬ (40 : Int32) = 33 by decide)]
  obtain ⟨M1, N1, y1, q⟩ := h d e (Nat.le_refl _) (Nat.le_refl _) _ _ _ _ (tx_open P haz hz)
  rw [hs_gi (by decide)] at q
  rw [y1, hs_oo]
  have p7 : s ≤ a := P.2.2.2.2.2.2.1
  rcases q with ⟨x1, a1, s1, P1, l1, l2, hd⟩ | ⟨x1, B1⟩
  · have x1' : f_RD d 0 (nb_i M 35 2 (M.1 35 2 + 1)) 0 (nI (o + 1)) = some (1, M1) := x1
    obtain ⟨r, d1, d2, d3⟩ := tx_look E P1
    rw [x1', hs_op, if_neg hs_10, d1, hs_oo, if_pos P1.2.2.2.2.2.2.2.2.2.1, d2, hs_oo]
    by_cases hr : r = 41
    · have ha1 : a1 < z := d3 (by rw [hr]; decide)
      have P2 := tx_good0 P1
      rw [if_pos hr, if_pos hr, hs_nn, hs_nn, if_pos P2.2.2.2.2.2.2.2.2.2.1, hs_nn, hs_nn]
      have P3 := tx_shut (tx_at P2 ha1 hz)
      refine ⟨_, _, rfl, Or.inl ⟨rfl, a1 + 1, s1, P3, by omega, by omega, fun d h => ?_⟩⟩
      rw [hs_gi (by decide)]
      exact hd d h
    · have B2 := tx_bad hz P1
      rw [if_neg hr, if_neg hr, hs_nn, if_neg (by rw [B2.2.2.1]; exact hs_10), hs_nn, hs_nn]
      exact ⟨_, _, rfl, Or.inr ⟨rfl, tx_shutB (tx_stayB B2) _⟩⟩
  · have x1' : f_RD d 0 (nb_i M 35 2 (M.1 35 2 + 1)) 0 (nI (o + 1)) = some (0, M1) := x1
    have B2 := tx_badB B1
    rw [x1', hs_op, if_pos rfl, if_neg (by rw [B1.2.2.1]; exact hs_10), hs_nn, if_neg (by rw [B2.2.2.1]; exact hs_10), hs_nn, hs_nn]
    exact ⟨_, _, rfl, Or.inr ⟨rfl, tx_shutB (tx_stayB B2) _⟩⟩
/-- one part -/
theorem tx_one (E : tx_E M0 N0 z u) {d e : Nat} (hn : o < 5 → tx_1 M0 N0 z (o + 1) d e ∧ tx_L M0 N0 z (o + 1) 0 0 d e) (ho : o ≤ 5) (P : tx_P M0 N0 z a s o M N) : tx_Q M0 N0 z a s o 0 (M.1 36) (f_X1_readsOne (f_RD (d + 1)) M (nI o)) (f_X7_one (f_MP (e + 1)) N) := by
  have hz : z ≤ 60 := E.1
  have p7 : s ≤ a := P.2.2.2.2.2.2.1
  have e13 : N.1 0 13 = nI o := P.2.2.2.2.2.2.2.2.1
  unfold f_X1_readsOne f_X7_one
  obtain ⟨r, c1, c2, c3⟩ := tx_look E P
  rw [c1, hs_oo, c2, hs_oo, hs_nn]
  rcases tx_dig r with ⟨g1, g2, k, hk, er⟩ | ⟨g1, g2⟩
  · rw [g1, if_neg hs_10, tx_dn E P g1, if_pos (show (-1 : Int32) < 0 by decide)]
    have hb : r ≠ 33 ∧ r ≠ 40 := by
      refine ⟨fun w => ?_, fun w => ?_⟩
      · have := (nI_eq (a := 33) (b := 48 + k) (by omega) (by omega)).mp (w.symm.trans er); omega
      · have := (nI_eq (a := 40) (b := 48 + k) (by omega) (by omega)).mp (w.symm.trans er); omega
    rw [if_neg hb.1, if_neg hb.2]
    obtain ⟨M1, N1, a1, x, y, P1, l1, l2, hd⟩ := tx_num E 4 0 nb_F nb_F a s 0 M N rfl (by have := hs_F; omega) (by have := hs_F; omega) (by decide) (by simpa using p7) (fun _ => ⟨r, c1, g1⟩) P
    have x' : f_X1_readNumber M = some M1 := x
    have y' : f_X7_number N = some N1 := y
    rw [x', y', hs_oo, hs_oo]
    have := l2 rfl
    exact ⟨M1, N1, rfl, Or.inl ⟨rfl, a1, s + 1, P1, by omega, by omega, fun d h => hd d h⟩⟩
  · rw [g1, if_pos rfl]
    rcases tx_name E P r with ⟨n, hn3, f1, f2, f3, f4⟩ | ⟨f1, f2⟩
    · have haz := c3 f3
      rw [f1, hs_oo, f2, if_neg (show ¬ (3 : Int32) ≤ nI n from nI_ge (b := 3) hn3 (by decide)), if_neg (nI_pos (by omega)), hs_nn, hs_nn]
      obtain ⟨M1, N1, x, y, P1, hd⟩ := tx_step hz (tx_at P haz hz) (x := 10000 + nI n) (p := 2) (q := nI n) (by omega) (Or.inr (Or.inl ⟨n, hn3, by rw [show (10000 : Int32) = nI 10000 from rfl, nI_add], rfl, rfl⟩))
      rw [x, hs_oo, y, hs_oo]
      refine ⟨M1, N1, rfl, Or.inl ⟨rfl, a + 1, s + 1, P1, by omega, by omega, fun d h => hd _ _ ?_ (Or.inl ⟨?_, rfl⟩)⟩⟩
      · rw [hs_gi (by decide)]; exact h
      · rw [show (10000 : Int32) = nI 10000 from rfl, nI_add]
        exact nI_lt (b := 20000) (by omega) (by decide)
    · rw [f1, hs_oo, f2, if_pos (show (3 : Int32) ≤ 3 by decide), if_pos (show (-1 : Int32) < 0 by decide)]
      by_cases h33 : r = 33
      · have haz : a < z := c3 (by rw [h33]; decide)
        rw [if_pos h33, if_pos h33, tx_MP6, h33]
        by_cases ho5 : o < 5
        · rw [if_pos (show nI o < (5 : Int32) from nI_lt (b := 5) ho5 (by decide)), tx_RD2, nI_1]
          obtain ⟨M1, N1, y, q⟩ := tx_not E (hn ho5).1 ho5 P haz
          rw [y, hs_oo]
          refine ⟨M1, N1, rfl, ?_⟩
          rcases q with ⟨x, q⟩ | ⟨x, q⟩
          · exact Or.inl ⟨by rw [x, hs_op, if_neg (fun w => w (Or.inr rfl))], q⟩
          · exact Or.inr ⟨by rw [x, hs_op, if_neg (fun w => w (Or.inl rfl))], q⟩
        · have : o = 5 := by omega
          rw [if_neg (show ¬ nI o < (5 : Int32) from nI_nlt (a := o) (b := 5) (by omega) (by omega))]
          unfold f_X7_opens
          rw [e13, this, if_pos (show nI 5 = 5 from rfl), hs_nn, hs_oo]
          exact ⟨M, _, rfl, Or.inr ⟨rfl, tx_bad hz P⟩⟩
      · rw [if_neg h33, if_neg h33]
        by_cases h40 : r = 40
        · have haz : a < z := c3 (by rw [h40]; decide)
          rw [if_pos h40, if_pos h40, tx_MP6, h40]
          by_cases ho5 : o < 5
          · rw [if_pos (show nI o < (5 : Int32) from nI_lt (b := 5) ho5 (by decide)), tx_RD3, nI_1]
            obtain ⟨M1, N1, y, q⟩ := tx_brace E (hn ho5).2 ho5 P haz
            rw [y, hs_oo]
            refine ⟨M1, N1, rfl, ?_⟩
            rcases q with ⟨x, q⟩ | ⟨x, q⟩
            · exact Or.inl ⟨by rw [x, hs_op, if_neg hs_10], q⟩
            · exact Or.inr ⟨by rw [x, hs_op, if_pos rfl], q⟩
          · have : o = 5 := by omega
            rw [if_neg (show ¬ nI o < (5 : Int32) from nI_nlt (a := o) (b := 5) (by omega) (by omega))]
            unfold f_X7_opens
            rw [e13, this, if_pos (show nI 5 = 5 from rfl), hs_nn, hs_oo]
            exact ⟨M, _, rfl, Or.inr ⟨rfl, tx_bad hz P⟩⟩
        · obtain ⟨N1, y, B⟩ := tx_nonum E P c2 g2
          rw [if_neg h40, if_neg h40, y, hs_oo, ite_self]
          exact ⟨M, N1, rfl, Or.inr ⟨rfl, B⟩⟩
end TXO
theorem tx_all {M0 N0 : nb_M} {z u : Nat} (E : tx_E M0 N0 z u) : ∀ k o, o + k = 5 → tx_1 M0 N0 z o (8 * k + 2) (7 * k + 2) := by
  intro k
  induction k with
  | zero =>
    intro o hk d e hd he a s M N P
    obtain ⟨d, rfl⟩ : ∃ q, d = q + 1 + 1 := ⟨d - 2, by omega⟩
    obtain ⟨e, rfl⟩ : ∃ q, e = q + 1 + 1 := ⟨e - 2, by omega⟩
    rw [tx_RD1, tx_MP5]
    exact tx_one E (fun w => by omega) (by omega) P
  | succ k ih =>
    intro o hk d e hd he a s M N P
    obtain ⟨d, rfl⟩ : ∃ q, d = q + 1 + 1 := ⟨d - 2, by omega⟩
    obtain ⟨e, rfl⟩ : ∃ q, e = q + 1 + 1 := ⟨e - 2, by omega⟩
    rw [tx_RD1, tx_MP5]
    refine tx_one E (fun w => ⟨?_, ?_⟩) (by omega) P
    · intro d' e' hd' he'
      exact ih (o + 1) (by omega) d' e' (by omega) (by omega)
    · intro d' e' hd' he'
      exact tx_up E (by omega) (ih (o + 1) (by omega)) d' e' (by omega) (by omega)
