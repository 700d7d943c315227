/-! text: the class's reader beside the reference's -/
def tx_C (M M' : nb_M) : Prop := (∀ k, k ≠ 35 → k ≠ 36 → M'.1 k = M.1 k) ∧ (∀ j, j ≠ 1 → j ≠ 2 → M'.1 35 j = M.1 35 j)
def tx_D (N N' : nb_M) : Prop := (∀ k, k ≠ 0 → k ≠ 7 → k ≠ 8 → N'.1 k = N.1 k) ∧ (∀ j, (j < 11 ∨ 14 < j) → N'.1 0 j = N.1 0 j)
theorem tx_C.rf (M : nb_M) : tx_C M M := ⟨fun _ _ _ => rfl, fun _ _ _ => rfl⟩
theorem tx_D.rf (M : nb_M) : tx_D M M := ⟨fun _ _ _ _ => rfl, fun _ _ => rfl⟩
theorem tx_C.tr {A B C : nb_M} (h : tx_C A B) (g : tx_C B C) : tx_C A C := ⟨fun k a b => (g.1 k a b).trans (h.1 k a b), fun k a b => (g.2 k a b).trans (h.2 k a b)⟩
theorem tx_D.tr {A B C : nb_M} (h : tx_D A B) (g : tx_D B C) : tx_D A C := ⟨fun k a b c => (g.1 k a b c).trans (h.1 k a b c), fun k a => (g.2 k a).trans (h.2 k a)⟩
theorem tx_s {M : nb_M} {c j : Nat} {v : Int32} : (nb_i M c j v).1 c j = v := by simp [nb_i, nb_r, upd]
theorem tx_n {M : nb_M} {c j i : Nat} {v : Int32} (h : i ≠ j) : (nb_i M c j v).1 c i = M.1 c i := by simp [nb_i, nb_r, upd, h]
theorem tx_C.i {M : nb_M} {j : Nat} {v : Int32} (h : j = 1 ∨ j = 2) : tx_C M (nb_i M 35 j v) := ⟨fun _ a _ => hs_gi a, fun i a b => tx_n (by omega)⟩
theorem tx_C.s {M : nb_M} {j : Nat} {v : Int32} : tx_C M (nb_i M 36 j v) := ⟨fun _ _ a => hs_gi a, fun i _ _ => congrFun (hs_gi (by decide)) i⟩
theorem tx_D.i {N : nb_M} {j : Nat} {v : Int32} (h : 11 ≤ j ∧ j ≤ 14) : tx_D N (nb_i N 0 j v) := ⟨fun _ a _ _ => hs_gi a, fun i a => tx_n (by omega)⟩
theorem tx_D.s {N : nb_M} {c j : Nat} {v : Int32} (h : c = 7 ∨ c = 8) : tx_D N (nb_i N c j v) := ⟨fun k _ a b => hs_gi (by omega), fun i _ => congrFun (hs_gi (by omega)) i⟩
/-- what both read: its size, its bytes, the use -/
def tx_E (M0 N0 : nb_M) (z u : Nat) : Prop := z ≤ 60 ∧ u ≤ 1 ∧ M0.1 35 4 = nI z ∧ N0.1 1 4 = nI z ∧ (∀ i, i < 60 → N0.1 1 (57 + i) = M0.1 37 i) ∧ M0.1 35 5 = nI u ∧ N0.1 0 15 = nI u
def tx_DD (f : Nat → Int32) (s d : Nat) : Prop := ∃ D : Nat → Nat, D 0 = 0 ∧ D s = d ∧ ∀ j, j < s → hs_DS (f j) (D j) (D (j + 1))
/-- no fault yet: place a, s steps, o opened -/
def tx_P (M0 N0 : nb_M) (z a s o : Nat) (M N : nb_M) : Prop := tx_C M0 M ∧ tx_D N0 N ∧ M.1 35 2 = nI a ∧ N.1 0 12 = nI a ∧ M.1 35 1 = nI s ∧ N.1 0 11 = nI s ∧ s ≤ a ∧ a ≤ z ∧ N.1 0 13 = nI o ∧ N.1 0 14 = 0 ∧ (∀ j, j < s → hs_CE (M.1 36 j) (N.1 7 j) (N.1 8 j))
/-- a fault -/
def tx_B (M0 N0 : nb_M) (z : Nat) (M N : nb_M) : Prop := tx_C M0 M ∧ tx_D N0 N ∧ N.1 0 14 = 1 ∧ ∃ a s, a ≤ z ∧ s ≤ 60 ∧ M.1 35 2 = nI a ∧ N.1 0 12 = nI a ∧ N.1 0 11 = nI s
def tx_Q (M0 N0 : nb_M) (z a s o e : Nat) (f : Nat → Int32) (x : Option (Int32 × nb_M)) (y : Option nb_M) : Prop := ∃ M' N', y = some N' ∧ ((x = some (1, M') ∧ ∃ a' s', tx_P M0 N0 z a' s' o M' N' ∧ a ≤ a' ∧ s' + a ≤ a' + s ∧ ∀ d, tx_DD f s (d + e) → tx_DD (M'.1 36) s' (d + 1)) ∨ (x = some (0, M') ∧ tx_B M0 N0 z M' N'))
theorem tx_DD.more {f : Nat → Int32} {s d d' : Nat} {x : Int32} (h : tx_DD f s d) (g : hs_DS x d d') : tx_DD (upd f s x) (s + 1) d' := by
  obtain ⟨D, h0, h1, h2⟩ := h
  refine ⟨fun j => if j ≤ s then D j else d', by simp [h0], if_neg (by omega), fun j hj => ?_⟩
  show hs_DS (upd f s x j) (if j ≤ s then D j else d') (if j + 1 ≤ s then D (j + 1) else d')
  by_cases e : j = s
  · subst e
    rw [hs_upd_s, if_pos (Nat.le_refl _), if_neg (by omega), h1]
    exact g
  · rw [hs_upd_n e, if_pos (by omega), if_pos (by omega)]
    exact h2 j (by omega)
section TX1
variable {M0 N0 M N : nb_M} {z u a s o : Nat}
theorem tx_step (hz : z ≤ 60) (P : tx_P M0 N0 z a s o M N) (hs : s + 1 ≤ a) {x p q : Int32} (hc : hs_CE x p q) : ∃ M' N', f_X1_step M x = some M' ∧ f_X7_lays N p q = some N' ∧ tx_P M0 N0 z a (s + 1) o M' N' ∧ ∀ d d', tx_DD (M.1 36) s d → hs_DS x d d' → tx_DD (M'.1 36) (s + 1) d' := by
  obtain ⟨p1, p2, p3, p4, p5, p6, p7, p8, p9, p10, p11⟩ := P
  have f1 : (nb_i M 36 s x).1 35 1 = nI s := (congrFun (hs_gi (by decide)) 1).trans p5
  have g1 : (nb_i N 7 s p).1 0 11 = nI s := (congrFun (hs_gi (by decide)) 11).trans p6
  have g2 : (nb_i (nb_i N 7 s p) 8 s q).1 0 11 = nI s := (congrFun (hs_gi (by decide)) 11).trans g1
  refine ⟨nb_i (nb_i M 36 s x) 35 1 (nI (s + 1)), nb_i (nb_i (nb_i N 7 s p) 8 s q) 0 11 (nI (s + 1)), ?_, ?_, ?_, ?_⟩
  · unfold f_X1_step
    rw [p5, if_neg (show ¬ (60 : Int32) ≤ nI s from nI_ge (b := 60) (by omega) (by decide)), if_neg (nI_in (show s < 60 by omega) (by decide)), nI_clamp (by omega), hs_nn, hs_nn, f1, nI_1]
  · unfold f_X7_lays
    rw [p6, if_neg (show ¬ (60 : Int32) ≤ nI s from nI_ge (b := 60) (by omega) (by decide)), if_neg (nI_in (show s < 60 by omega) (by decide)), nI_clamp (by omega), hs_nn, g1, if_neg (nI_in (show s < 60 by omega) (by decide)), nI_clamp (by omega), hs_nn, hs_nn, g2, nI_1]
  · refine ⟨p1.tr (tx_C.s.tr (tx_C.i (Or.inl rfl))), p2.tr ((tx_D.s (Or.inl rfl)).tr ((tx_D.s (Or.inr rfl)).tr (tx_D.i (by omega)))), ?_, ?_, tx_s, tx_s, hs, p8, ?_, ?_, ?_⟩
    · rw [tx_n (by decide)]; exact (congrFun (hs_gi (by decide)) 2).trans p3
    · rw [tx_n (by decide)]; exact (congrFun (hs_gi (by decide)) 12).trans ((congrFun (hs_gi (by decide)) 12).trans p4)
    · rw [tx_n (by decide)]; exact (congrFun (hs_gi (by decide)) 13).trans ((congrFun (hs_gi (by decide)) 13).trans p9)
    · rw [tx_n (by decide)]; exact (congrFun (hs_gi (by decide)) 14).trans ((congrFun (hs_gi (by decide)) 14).trans p10)
    · intro j hj
      show hs_CE (upd (M.1 36) s x j) (upd (N.1 7) s p j) (upd (N.1 8) s q j)
      by_cases e : j = s
      · subst e; rw [hs_upd_s, hs_upd_s, hs_upd_s]; exact hc
      · rw [hs_upd_n e, hs_upd_n e, hs_upd_n e]; exact p11 j (by omega)
  · intro d d' h g
    exact h.more g
theorem tx_at (P : tx_P M0 N0 z a s o M N) (h : a < z) (hz : z ≤ 60) : tx_P M0 N0 z (a + 1) s o (nb_i M 35 2 (M.1 35 2 + 1)) (nb_i N 0 12 (N.1 0 12 + 1)) := by
  obtain ⟨p1, p2, p3, p4, p5, p6, p7, p8, p9, p10, p11⟩ := P
  rw [p3, p4, nI_1]
  refine ⟨p1.tr (tx_C.i (Or.inr rfl)), p2.tr (tx_D.i (by omega)), tx_s, tx_s, ?_, ?_, by omega, by omega, ?_, ?_, ?_⟩
  · rw [tx_n (by decide)]; exact p5
  · rw [tx_n (by decide)]; exact p6
  · rw [tx_n (by decide)]; exact p9
  · rw [tx_n (by decide)]; exact p10
  · exact p11
theorem tx_look (E : tx_E M0 N0 z u) (P : tx_P M0 N0 z a s o M N) : ∃ r, f_X1_next M = some r ∧ f_X7_look N = some r ∧ (r ≠ -1 → a < z) := by
  obtain ⟨e1, e2, e3, e4, e5, e6, e7⟩ := E
  obtain ⟨p1, p2, p3, p4, p5, p6, p7, p8, p9, p10, p11⟩ := P
  have f4 : M.1 35 4 = nI z := (p1.2 4 (by decide) (by decide)).trans e3
  have g4 : N.1 1 4 = nI z := (congrFun (p2.1 1 (by decide) (by decide) (by decide)) 4).trans e4
  unfold f_X1_next f_X7_look
  rw [f4, hs_c4, g4, p3, p4]
  by_cases h : z ≤ a
  · rw [if_pos (nI_le h (by omega)), if_pos (nI_le h (by omega))]
    exact ⟨_, rfl, rfl, fun w => absurd rfl w⟩
  · have x0 : (57 : Int32) + nI a = nI (57 + a) := by rw [show (57 : Int32) = nI 57 from rfl, nI_add]
    rw [if_neg (nI_ge (by omega) (by omega)), if_neg (nI_ge (by omega) (by omega)), x0, if_neg (nI_in (show a < 60 by omega) (by decide)), if_neg (nI_in (show 57 + a < 383 by omega) (by decide)), nI_clamp (by omega), nI_clamp (by omega)]
    refine ⟨_, rfl, ?_, fun _ => by omega⟩
    rw [congrFun (p2.1 1 (by decide) (by decide) (by decide)) (57 + a), e5 a (by omega), congrFun (p1.1 37 (by decide) (by decide)) a]
theorem tx_lookB (E : tx_E M0 N0 z u) (P : tx_B M0 N0 z M N) : ∃ r, f_X7_look N = some r := by
  obtain ⟨e1, e2, e3, e4, e5, e6, e7⟩ := E
  obtain ⟨p1, p2, p3, a, s, h1, h2, h3, h4, h5⟩ := P
  have g4 : N.1 1 4 = nI z := (congrFun (p2.1 1 (by decide) (by decide) (by decide)) 4).trans e4
  unfold f_X7_look
  rw [hs_c4, g4, h4]
  by_cases h : z ≤ a
  · rw [if_pos (nI_le h (by omega))]
    exact ⟨_, rfl⟩
  · have x0 : (57 : Int32) + nI a = nI (57 + a) := by rw [show (57 : Int32) = nI 57 from rfl, nI_add]
    rw [if_neg (nI_ge (by omega) (by omega)), x0, if_neg (nI_in (show 57 + a < 383 by omega) (by decide))]
    exact ⟨_, rfl⟩
theorem tx_laysB (P : tx_B M0 N0 z M N) (p q : Int32) : ∃ N', f_X7_lays N p q = some N' ∧ tx_B M0 N0 z M N' := by
  obtain ⟨p1, p2, p3, a, s, h1, h2, h3, h4, h5⟩ := P
  unfold f_X7_lays
  rw [h5]
  by_cases h : 60 ≤ s
  · rw [if_pos (show (60 : Int32) ≤ nI s from nI_le (a := 60) h (by omega))]
    exact ⟨N, rfl, p1, p2, p3, a, s, h1, h2, h3, h4, h5⟩
  · have g1 : (nb_i N 7 s p).1 0 11 = nI s := (congrFun (hs_gi (by decide)) 11).trans h5
    have g2 : (nb_i (nb_i N 7 s p) 8 s q).1 0 11 = nI s := (congrFun (hs_gi (by decide)) 11).trans g1
    rw [if_neg (show ¬ (60 : Int32) ≤ nI s from nI_ge (b := 60) (by omega) (by decide)), if_neg (nI_in (show s < 60 by omega) (by decide)), nI_clamp (by omega), hs_nn, g1, if_neg (nI_in (show s < 60 by omega) (by decide)), nI_clamp (by omega), hs_nn, hs_nn, g2, nI_1]
    refine ⟨_, rfl, p1, p2.tr ((tx_D.s (Or.inl rfl)).tr ((tx_D.s (Or.inr rfl)).tr (tx_D.i (by omega)))), ?_, a, s + 1, h1, by omega, h3, ?_, tx_s⟩
    · rw [tx_n (by decide)]; exact (congrFun (hs_gi (by decide)) 14).trans ((congrFun (hs_gi (by decide)) 14).trans p3)
    · rw [tx_n (by decide)]; exact (congrFun (hs_gi (by decide)) 12).trans ((congrFun (hs_gi (by decide)) 12).trans h4)
/-- a fault where all was well -/
theorem tx_bad (hz : z ≤ 60) (P : tx_P M0 N0 z a s o M N) : tx_B M0 N0 z M (nb_i N 0 14 1) := by
  obtain ⟨p1, p2, p3, p4, p5, p6, p7, p8, p9, p10, p11⟩ := P
  refine ⟨p1, p2.tr (tx_D.i (by omega)), tx_s, a, s, p8, by omega, p3, ?_, ?_⟩
  · rw [tx_n (by decide)]; exact p4
  · rw [tx_n (by decide)]; exact p6
end TX1
theorem tx_lv (r : Int32) : (f_X1_levelOf r = 0 ∧ r = 124) ∨ (f_X1_levelOf r = 1 ∧ r = 38) ∨ (f_X1_levelOf r = 2 ∧ (r = 60 ∨ r = 61 ∨ r = 62)) ∨ (f_X1_levelOf r = 3 ∧ (r = 43 ∨ r = 45)) ∨ (f_X1_levelOf r = 4 ∧ (r = 42 ∨ r = 47 ∨ r = 37)) ∨ (f_X1_levelOf r = -1 ∧ r ≠ 124 ∧ r ≠ 38 ∧ r ≠ 60 ∧ r ≠ 61 ∧ r ≠ 62 ∧ r ≠ 43 ∧ r ≠ 45 ∧ r ≠ 42 ∧ r ≠ 47 ∧ r ≠ 37) := by
  unfold f_X1_levelOf
  by_cases h1 : r = 37
  · subst h1; decide
  by_cases h2 : r = 38
  · subst h2; decide
  by_cases h3 : r = 42
  · subst h3; decide
  by_cases h4 : r = 43
  · subst h4; decide
  by_cases h5 : r = 45
  · subst h5; decide
  by_cases h6 : r = 47
  · subst h6; decide
  by_cases h7 : r = 60
  · subst h7; decide
  by_cases h8 : r = 61
  · subst h8; decide
  by_cases h9 : r = 62
  · subst h9; decide
  by_cases h10 : r = 124
  · subst h10; decide
  rw [if_neg h1, if_neg h2, if_neg h3, if_neg h4, if_neg h5, if_neg h6, if_neg h7, if_neg h8, if_neg h9, if_neg h10]
  exact Or.inr (Or.inr (Or.inr (Or.inr (Or.inr ⟨rfl, h10, h2, h7, h8, h9, h4, h5, h3, h6, h1⟩))))
theorem tx_op {r : Int32} {l : Nat} (hl : l < 5) (h : f_X1_levelOf r = nI l) : hs_CE (20000 + r) r 0 ∧ (∀ d, hs_DS (20000 + r) (d + 2) (d + 1)) ∧ r ≠ -1 := by
  have key : ∀ c, c ∈ hs_ops → r = nI c → hs_CE (20000 + r) r 0 ∧ (∀ d, hs_DS (20000 + r) (d + 2) (d + 1)) ∧ r ≠ -1 := by
    intro c hc e
    have e2 : (20000 : Int32) + r = nI (20000 + c) := by rw [e, show (20000 : Int32) = nI 20000 from rfl, nI_add]
    have hb : c < 125 ∧ c ≠ 33 := by
      revert hc
      unfold hs_ops
      intro hc
      simp only [List.mem_cons, List.not_mem_nil, or_false] at hc
      omega
    refine ⟨?_, fun d => ?_, ?_⟩
    · rw [e2]
      exact Or.inr (Or.inr (Or.inr ⟨c, hc, rfl, e⟩))
    · rw [e2]
      refine Or.inr (Or.inr ⟨nI_nlt (a := 20000 + c) (b := 20000) (by omega) (by omega), fun w => ?_, by omega, by omega⟩)
      have := (nI_eq (a := 20000 + c) (b := 20033) (by omega) (by omega)).mp w
      omega
    · intro w
      have : nI c < 0 := by rw [← e, w]; decide
      exact nI_pos (by omega) this
  rcases tx_lv r with ⟨_, e⟩ | ⟨_, e⟩ | ⟨_, e | e | e⟩ | ⟨_, e | e⟩ | ⟨_, e | e | e⟩ | ⟨e, _⟩
  · exact key 124 (by decide) e
  · exact key 38 (by decide) e
  · exact key 60 (by decide) e
  · exact key 61 (by decide) e
  · exact key 62 (by decide) e
  · exact key 43 (by decide) e
  · exact key 45 (by decide) e
  · exact key 42 (by decide) e
  · exact key 47 (by decide) e
  · exact key 37 (by decide) e
  · rw [e] at h
    exfalso
    have : nI l < 0 := by rw [← h]; decide
    exact nI_pos (by omega) this
