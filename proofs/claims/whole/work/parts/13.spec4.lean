/-! the reference's pile -/
theorem hs_rw {a b c : Int32} {k q : Nat} {s : Nat → Int32} (hk : k ≤ 60) (hq : q + 121 ≤ 383) {D : Nat → Nat} (h0 : D 0 = 0) (hD : ∀ j, j < k → hs_DS (s j) (D j) (D (j + 1))) (h1 : 1 ≤ k) :
    ∀ (n i : Nat) (N : nb_M), N.1 1 q = nI k → (∀ j, j < k → hs_CE (s j) (N.1 1 (q + 1 + j)) (N.1 1 (q + 61 + j))) → N.1 9 0 = a → N.1 9 1 = b → N.1 9 2 = c → i ≤ k → k - i < n → hs_SA (N.1 10) (hs_evn s a b c i) → ∃ N', f_X7_works_4 n N (nI q) (nI (hs_evn s a b c i).length) (nI i) = some (hs_bot (hs_evn s a b c k), N') ∧ hs_Sd N N' := by
  intro n
  induction n with
  | zero => intro i N _ _ _ _ _ _ h; omega
  | succ n ih =>
    intro i N ek eC f0 f1 f2 hi hn hA
    obtain ⟨dl, d2, d3⟩ := hs_dep (a := a) (b := b) (c := c) h0 hD i hi
    rw [f_X7_works_4, if_neg (nI_in (show q < 383 by omega) (by decide)), nI_clamp (show q < 2 ^ 31 by omega), ek]
    by_cases hl : i < k
    · have hds := hD i hl
      rw [← dl] at hds
      have hev : hs_evn s a b c (i + 1) = hs_ev1 (s i) a b c (hs_evn s a b c i) := rfl
      have hlen : (hs_evn s a b c i).length < 60 := by omega
      have x1 : (nI q + 1) + nI i = nI (q + 1 + i) := by rw [nI_1, nI_add]
      have x2 : (nI q + 61) + nI i = nI (q + 61 + i) := by rw [show (61 : Int32) = nI 61 from rfl, nI_add, nI_add]
      rw [if_neg (nI_ge hl (by omega)), x1, x2, if_neg (nI_in (show q + 1 + i < 383 by omega) (by decide)), nI_clamp (show q + 1 + i < 2 ^ 31 by omega), nI_clamp (show q + 61 + i < 2 ^ 31 by omega)]
      have hb2 : ¬ (nI (q + 61 + i) < 0 ∨ 383 ≤ q + 61 + i) := fun w => w.elim (nI_pos (by omega)) (fun w => absurd w (by omega))
      simp only [nb_n]
      have hCE := eC i hl
      generalize hst : hs_evn s a b c i = st at *
      have go : ∀ (x : Int32) (j : Nat) (st' : List Int32), hs_evn s a b c (i + 1) = st' → hs_SA (upd (N.1 10) j x) st' → ∃ N', f_X7_works_4 n (nb_i N 10 j x) (nI q) (nI st'.length) (nI (i + 1)) = some (hs_bot (hs_evn s a b c k), N') ∧ hs_Sd N N' := by
        intro x j st' e1 e2
        have h := ih (i + 1) (nb_i N 10 j x) ek eC f0 f1 f2 (by omega) (by omega) (by rw [e1]; exact e2)
        rw [e1] at h
        obtain ⟨N', q1, q2⟩ := h
        exact ⟨N', q1, (hs_Sd.i (by omega)).tr q2⟩
      have push : ∀ x, hs_evn s a b c (i + 1) = x :: st → ∃ N', f_X7_works_4 n (nb_i N 10 st.length x) (nI q) (nI (st.length + 1)) (nI (i + 1)) = some (hs_bot (hs_evn s a b c k), N') ∧ hs_Sd N N' := fun x hx => go x st.length (x :: st) hx ⟨hs_upd_s, hA.upd (Nat.le_refl _)⟩
      rcases hCE with ⟨v, hv, ex, e1, e2⟩ | ⟨v, hv, ex, e1, e2⟩ | ⟨ex, e1⟩ | ⟨v, hv, ex, e1⟩
      · have p : hs_evn s a b c (i + 1) = nI v :: st := by
          rw [hev, ex]
          simp only [hs_ev1, if_pos (hs_lt20 (show v < 20000 by omega)), if_pos (show nI v < (10000 : Int32) from nI_lt (b := 10000) hv (by decide))]
        rw [e1, if_pos rfl, if_neg hb2, if_neg (nI_in hlen (by decide)), nI_clamp (show st.length < 2 ^ 31 by omega), e2, nI_1, nI_1]
        exact push _ p
      · have p : hs_evn s a b c (i + 1) = (if v = 0 then a else if v = 1 then b else c) :: st := by
          rw [hev, ex]
          simp only [hs_ev1, if_pos (hs_lt20 (show 10000 + v < 20000 by omega)), if_neg (show ¬ nI (10000 + v) < (10000 : Int32) from nI_nlt (b := 10000) (by omega) (by omega))]
          congr 1
          match v, hv with
          | 0, _ => rfl
          | 1, _ => rfl
          | 2, _ => rfl
        have p2 : N.1 9 v = (if v = 0 then a else if v = 1 then b else c) := by
          match v, hv with
          | 0, _ => exact f0
          | 1, _ => exact f1
          | 2, _ => exact f2
        rw [e1, if_neg (by decide), if_pos rfl, if_neg hb2, e2, if_neg (nI_in hv (by decide)), if_neg (nI_in hlen (by decide)), nI_clamp (show st.length < 2 ^ 31 by omega), nI_clamp (show v < 2 ^ 31 by omega), p2, nI_1, nI_1]
        exact push _ p
      · have hnp : ¬ s i < 20000 := by rw [ex]; decide
        rcases hds with ⟨p1, p2⟩ | ⟨p1, p2, p3⟩ | ⟨p1, p2, p3, p4⟩
        · exact absurd p1 hnp
        · cases st with
          | nil => exact absurd p2 (by simp)
          | cons v r =>
            have hr : r.length < 60 := by simp only [List.length_cons] at hlen; omega
            have e2 : hs_evn s a b c (i + 1) = (if v = 0 then 1 else 0) :: r := by
              rw [hev]
              simp only [hs_ev1, if_neg hnp, if_pos p1]
            simp only [List.length_cons]
            rw [e1, if_neg (by decide), if_neg (by decide), if_pos rfl, hs_m1', if_neg (nI_in hr (by decide)), nI_clamp (by omega), hA.1]
            have g : ∀ x, hs_evn s a b c (i + 1) = x :: r → ∃ N', f_X7_works_4 n (nb_i N 10 r.length x) (nI q) (nI (r.length + 1)) (nI (i + 1)) = some (hs_bot (hs_evn s a b c k), N') ∧ hs_Sd N N' := fun x hx => go x r.length (x :: r) hx ⟨hs_upd_s, hA.2.upd (Nat.le_refl _)⟩
            by_cases hv : v = 0
            · rw [if_pos hv, nI_1]
              exact g 1 (by rw [e2, if_pos hv])
            · rw [if_neg hv, nI_1]
              exact g 0 (by rw [e2, if_neg hv])
        · exact absurd ex p2
      · have hb : v < 125 ∧ v ≠ 33 ∧ 4 ≤ v := by
          simp only [hs_ops, List.mem_cons, List.not_mem_nil, or_false] at hv
          omega
        have hnp : ¬ s i < 20000 := by rw [ex]; exact hs_ge20 (by omega) (by omega)
        have hn3 : ¬ s i = nI 20033 := by
          rw [ex]
          intro w
          have := (nI_eq (by omega) (by omega)).mp w
          omega
        rcases hds with ⟨p1, p2⟩ | ⟨p1, p2, p3⟩ | ⟨p1, p2, p3, p4⟩
        · exact absurd p1 hnp
        · exact absurd p1 hn3
        · cases st with
          | nil => exact absurd p3 (by simp)
          | cons w st2 =>
            cases st2 with
            | nil => exact absurd p3 (by simp)
            | cons u r =>
              have hr : r.length + 2 < 60 := by simp only [List.length_cons] at hlen; omega
              have es : s i - 20000 = nI v := by rw [ex, show (20000 : Int32) = nI 20000 from rfl, pk_sub (by omega), Nat.add_sub_cancel_left]
              have e2 : hs_evn s a b c (i + 1) = hs_jn (nI v) u w :: r := by
                rw [hev]
                simp only [hs_ev1, if_neg p1, if_neg p2]
                rw [es]
              have a1 : N.1 10 (r.length + 1) = w := hA.1
              have a2 : N.1 10 r.length = u := hA.2.1
              have n1 : ¬ nI v = 1 := fun z => by have := (nI_eq (b := 1) (by omega) (by omega)).mp z; omega
              have n2 : ¬ nI v = 2 := fun z => by have := (nI_eq (b := 2) (by omega) (by omega)).mp z; omega
              have n3 : ¬ nI v = 3 := fun z => by have := (nI_eq (b := 3) (by omega) (by omega)).mp z; omega
              simp only [List.length_cons]
              rw [e1, if_neg n1, if_neg n2, if_neg n3, hs_m1, hs_m1', if_neg (nI_in (by omega) (by decide)), if_neg (nI_in (by omega) (by decide)), nI_clamp (by omega), nI_clamp (by omega), a1, a2, hs_rjn]
              simp only [nb_o]
              rw [nI_1]
              exact go _ r.length _ e2 ⟨hs_upd_s, hA.2.2.upd (Nat.le_refl _)⟩
    · have : i = k := by omega
      subst this
      rw [if_pos (nI_le (Nat.le_refl _) (by omega)), hs_c0]
      exact ⟨N, by rw [hA.bot (by omega)], hs_Sd.rf N⟩
/-! what a use gives -/
def hs_hd (v m : Int32) : Int32 := if 0 ≤ v then (if v ≤ m then v else m) else 0
theorem hs_rhd (v m : Int32) : f_X7_held v 0 m = hs_hd v m := rfl
theorem hs_chd (v : Int32) {m : Int32} (hm : 0 < m) : f_X6_held v m = hs_hd v m := by
  unfold f_X6_held hs_hd
  rw [Int32.lt_iff_toInt_lt] at hm
  have z : (0 : Int32).toInt = 0 := rfl
  rw [z] at hm
  by_cases h1 : v < m
  · rw [if_pos h1, if_pos (Int32.le_of_lt h1)]
    by_cases h2 : 0 < v
    · rw [if_pos h2, if_pos (Int32.le_of_lt h2)]
    · rw [if_neg h2]
      by_cases h3 : 0 ≤ v
      · rw [if_pos h3]; exact Int32.le_antisymm h3 (Int32.not_lt.mp h2)
      · rw [if_neg h3]
  · rw [if_neg h1]
    have h4 : m ≤ v := Int32.not_lt.mp h1
    have h5 : (0 : Int32) < m := by rw [Int32.lt_iff_toInt_lt, z]; exact hm
    have h6 : (0 : Int32) ≤ v := Int32.le_trans (Int32.le_of_lt h5) h4
    rw [if_pos h5, if_pos h6]
    by_cases h7 : v ≤ m
    · rw [if_pos h7]; exact Int32.le_antisymm h4 h7
    · rw [if_neg h7]
def hs_gv (u : Nat) (n : Int32) (s : Nat → Int32) (a b c : Int32) : Int32 :=
  hs_hd (if n ≤ 0 then (if u = 0 then a else 10 * a) else hs_bot (hs_evn s a b c n.toNatClampNeg)) (if u = 0 then 16 else 199)
theorem hs_cgv0 {M : nb_M} {r : Nat → Int32} {q : Nat} (T : hs_HT (M.1 12 1) (M.1 13) r q) (a b c : Int32) : ∃ M', f_X0_gives M 0 a b c = some (hs_gv 0 (M.1 12 1) (M.1 13) a b c, M') ∧ hs_Sc M M' := by
  obtain ⟨k, hk, e1, -, -, D, h0, hD⟩ := T
  unfold f_X0_gives f_X3_isThere_12 hs_gv
  rw [if_pos rfl, e1]
  by_cases hz : k = 0
  · subst hz
    have z : nI 0 ≤ (0 : Int32) := by decide
    simp only [if_pos z, if_pos]
    exact ⟨M, by rw [hs_chd _ (by decide)] <;> rfl, hs_Sc.rf M⟩
  · have z : ¬ nI k ≤ (0 : Int32) := nI_nle (by omega) (by omega)
    have z1 : ¬ (1 : Int32) = 0 := by decide
    simp only [if_neg z, if_neg z1]
    obtain ⟨M', g1, g2⟩ := hs_cw12 a b c hk h0 hD (by omega) nb_F 0 M e1 rfl (by omega) (by have := hs_F; omega) trivial
    have g3 : f_X3_workOut_12 M a b c = some (hs_bot (hs_evn (M.1 13) a b c k), M') := g1
    rw [g3, nI_clamp (by omega)]
    exact ⟨M', by simp only [nb_p]; rw [hs_chd _ (by decide)] <;> rfl, g2⟩
theorem hs_rgv0 {N : nb_M} {n : Int32} {s : Nat → Int32} (T : hs_HT n s (N.1 1) 141) (a b c : Int32) : ∃ N', f_X7_gives N 0 a b c = some (hs_gv 0 n s a b c, N') ∧ hs_Sd N N' := by
  obtain ⟨k, hk, e1, e2, e3, D, h0, hD⟩ := T
  unfold f_X7_gives hs_gv
  have x : (141 : Int32) + ((121 : Int32) * 0) = nI 141 := by decide
  simp only [nb_n]
  rw [x, hs_c0, hs_c1, hs_c2, if_neg (nI_in (show 141 < 383 by decide) (by decide)), nI_clamp (by decide)]
  generalize hN4 : nb_i (nb_i (nb_i N 9 0 a) 9 1 b) 9 2 c = N4
  have q1 : N4.1 1 = N.1 1 := by rw [← hN4]; rfl
  have q0 : hs_Sd N N4 := by rw [← hN4]; exact ((hs_Sd.i (by omega)).tr (hs_Sd.i (by omega))).tr (hs_Sd.i (by omega))
  have f0 : N4.1 9 0 = a := by rw [← hN4]; rfl
  have f1 : N4.1 9 1 = b := by rw [← hN4]; rfl
  have f2 : N4.1 9 2 = c := by rw [← hN4]; rfl
  rw [q1, e2, e1]
  by_cases hz : k = 0
  · subst hz
    have z : nI 0 ≤ (0 : Int32) := by decide
    simp only [if_pos z]
    exact ⟨N4, by first | rfl | simp [hs_rhd], q0⟩
  · have z : ¬ nI k ≤ (0 : Int32) := nI_nle (by omega) (by omega)
    simp only [if_neg z]
    obtain ⟨N', g1, g2⟩ := hs_rw (a := a) (b := b) (c := c) (q := 141) hk (by decide) h0 hD (by omega) nb_F 0 N4 (by rw [q1]; exact e2) (by rw [q1]; exact e3) f0 f1 f2 (by omega) (by have := hs_F; omega) trivial
    have g3 : f_X7_works N4 (nI 141) = some (hs_bot (hs_evn s a b c k), N') := g1
    rw [g3, nI_clamp (by omega)]
    exact ⟨N', by first | rfl | simp [hs_rhd, nb_p], q0.tr g2⟩
theorem hs_cgv1 {M : nb_M} {r : Nat → Int32} {q : Nat} (T : hs_HT (M.1 15 1) (M.1 16) r q) (a b c : Int32) : ∃ M', f_X0_gives M 1 a b c = some (hs_gv 1 (M.1 15 1) (M.1 16) a b c, M') ∧ hs_Sc M M' := by
  obtain ⟨k, hk, e1, -, -, D, h0, hD⟩ := T
  unfold f_X0_gives f_X3_isThere_15 hs_gv
  rw [if_neg (by decide), if_pos rfl, e1]
  by_cases hz : k = 0
  · subst hz
    have z : nI 0 ≤ (0 : Int32) := by decide
    simp only [if_pos z, if_pos]
    exact ⟨M, by rw [hs_chd _ (by decide)] <;> rfl, hs_Sc.rf M⟩
  · have z : ¬ nI k ≤ (0 : Int32) := nI_nle (by omega) (by omega)
    have z1 : ¬ (1 : Int32) = 0 := by decide
    simp only [if_neg z, if_neg z1]
    obtain ⟨M', g1, g2⟩ := hs_cw15 a b c hk h0 hD (by omega) nb_F 0 M e1 rfl (by omega) (by have := hs_F; omega) trivial
    have g3 : f_X3_workOut_15 M a b c = some (hs_bot (hs_evn (M.1 16) a b c k), M') := g1
    rw [g3, nI_clamp (by omega)]
    exact ⟨M', by simp only [nb_p]; rw [hs_chd _ (by decide)] <;> rfl, g2⟩
theorem hs_rgv1 {N : nb_M} {n : Int32} {s : Nat → Int32} (T : hs_HT n s (N.1 1) 262) (a b c : Int32) : ∃ N', f_X7_gives N 1 a b c = some (hs_gv 1 n s a b c, N') ∧ hs_Sd N N' := by
  obtain ⟨k, hk, e1, e2, e3, D, h0, hD⟩ := T
  unfold f_X7_gives hs_gv
  have x : (141 : Int32) + ((121 : Int32) * 1) = nI 262 := by decide
  simp only [nb_n]
  rw [x, hs_c0, hs_c1, hs_c2, if_neg (nI_in (show 262 < 383 by decide) (by decide)), nI_clamp (by decide)]
  generalize hN4 : nb_i (nb_i (nb_i N 9 0 a) 9 1 b) 9 2 c = N4
  have q1 : N4.1 1 = N.1 1 := by rw [← hN4]; rfl
  have q0 : hs_Sd N N4 := by rw [← hN4]; exact ((hs_Sd.i (by omega)).tr (hs_Sd.i (by omega))).tr (hs_Sd.i (by omega))
  have f0 : N4.1 9 0 = a := by rw [← hN4]; rfl
  have f1 : N4.1 9 1 = b := by rw [← hN4]; rfl
  have f2 : N4.1 9 2 = c := by rw [← hN4]; rfl
  rw [q1, e2, e1]
  by_cases hz : k = 0
  · subst hz
    have z : nI 0 ≤ (0 : Int32) := by decide
    simp only [if_pos z]
    exact ⟨N4, by first | rfl | simp [hs_rhd], q0⟩
  · have z : ¬ nI k ≤ (0 : Int32) := nI_nle (by omega) (by omega)
    simp only [if_neg z]
    obtain ⟨N', g1, g2⟩ := hs_rw (a := a) (b := b) (c := c) (q := 262) hk (by decide) h0 hD (by omega) nb_F 0 N4 (by rw [q1]; exact e2) (by rw [q1]; exact e3) f0 f1 f2 (by omega) (by have := hs_F; omega) trivial
    have g3 : f_X7_works N4 (nI 262) = some (hs_bot (hs_evn s a b c k), N') := g1
    rw [g3, nI_clamp (by omega)]
    exact ⟨N', by first | rfl | simp [hs_rhd, nb_p], q0.tr g2⟩
/-! risk and years -/
def hs_rk (h : Nat → Nat → Int32) (a : Nat) (c : Int32) : Int32 := hs_gv 0 (h 11 1) (h 12) (hs_sl h a c) c (h 0 0 - h 0 0 / 7 * 7)
def hs_yr (h : Nat → Nat → Int32) (i : Nat) : Int32 := hs_gv 1 (h 14 1) (h 15) (hs_due h i) (hs_sh h) (nI i)
section HSR
variable {h : Nat → Nat → Int32} {M N : nb_M} {r : Nat → Int32}
theorem hs_crk (H : hs_HH (hs_ho 1 M) r) (I : hs_HI (hs_ho 1 M)) {a : Nat} (ha : a < 9) (c : Int32) : ∃ M', f_X0_riskBy M (nI a) c = some (hs_rk (hs_ho 1 M) a c, M') ∧ hs_Sc M M' := by
  unfold f_X0_riskBy
  rw [hs_csl I ha]
  simp only [nb_o]
  obtain ⟨M', g1, g2⟩ := hs_cgv0 (M := M) (r := r) H.2.1 (hs_sl (hs_ho 1 M) a c) c (M.1 1 0 - M.1 1 0 / 7 * 7)
  rw [g1]
  exact ⟨M', rfl, g2⟩
theorem hs_rrk (H : hs_HH h (N.1 1)) (I : hs_HI h) {a : Nat} (ha : a < 9) (c : Int32) : ∃ N', f_X7_riskBy N (nI a) c = some (hs_rk h a c, N') ∧ hs_Sd N N' := by
  unfold f_X7_riskBy
  rw [hs_rsl H I ha, hs_c0, hs_r0 H]
  simp only [nb_o]
  obtain ⟨N', g1, g2⟩ := hs_rgv0 H.2.1 (hs_sl h a c) c (h 0 0 - h 0 0 / 7 * 7)
  rw [g1]
  exact ⟨N', rfl, g2⟩
theorem hs_cri (H : hs_HH (hs_ho 1 M) r) (I : hs_HI (hs_ho 1 M)) {a i : Nat} (ha : a < 9) (hi : i < 5) : ∃ M', f_X0_riskIn M (nI a) (nI i) = some (hs_rk (hs_ho 1 M) a (hs_ho 1 M 1 i), M') ∧ hs_Sc M M' := by
  unfold f_X0_riskIn
  rw [if_neg (nI_in hi (by decide)), nI_clamp (by omega)]
  obtain ⟨M', g1, g2⟩ := hs_crk H I ha (M.1 2 i)
  rw [g1]
  exact ⟨M', rfl, g2⟩
theorem hs_rri (H : hs_HH h (N.1 1)) (I : hs_HI h) {a i : Nat} (ha : a < 9) (hi : i < 5) : ∃ N', f_X7_riskOf N (nI a) (nI i) = some (hs_rk h a (h 1 i), N') ∧ hs_Sd N N' := by
  unfold f_X7_riskOf
  rw [hs_ab0 H hi]
  simp only [nb_o]
  obtain ⟨N', g1, g2⟩ := hs_rrk H I ha (h 1 i)
  rw [g1]
  exact ⟨N', rfl, g2⟩
theorem hs_cyr (H : hs_HH (hs_ho 1 M) r) (I : hs_HI (hs_ho 1 M)) {i : Nat} (hi : i < 5) : ∃ M', f_X0_yearsOf M (nI i) = some (hs_yr (hs_ho 1 M) i, M') ∧ hs_Sc M M' := by
  unfold f_X0_yearsOf
  rw [hs_cdue hi, hs_csh I]
  simp only [nb_o]
  obtain ⟨M', g1, g2⟩ := hs_cgv1 (M := M) (r := r) H.2.2 (hs_due (hs_ho 1 M) i) (hs_sh (hs_ho 1 M)) (nI i)
  rw [g1]
  exact ⟨M', rfl, g2⟩
theorem hs_ryr (H : hs_HH h (N.1 1)) (I : hs_HI h) {i : Nat} (hi : i < 5) : ∃ N', f_X7_gives N 1 (hs_due h i) (hs_sh h) (nI i) = some (hs_yr h i, N') ∧ hs_Sd N N' := hs_rgv1 H.2.2 _ _ _
theorem hs_hd16 (v : Int32) : ¬ 16 < hs_hd v 16 ∧ 0 ≤ hs_hd v 16 := by
  unfold hs_hd
  split
  · split
    · exact ⟨Int32.not_lt.mpr ‹_›, ‹_›⟩
    · exact ⟨by decide, by decide⟩
  · exact ⟨by decide, by decide⟩
theorem hs_rk17 (h : Nat → Nat → Int32) (a : Nat) (c : Int32) : ¬ 16 < hs_rk h a c ∧ 0 ≤ hs_rk h a c := hs_hd16 _
end HSR
