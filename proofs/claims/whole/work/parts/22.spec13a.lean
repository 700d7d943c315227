/-! the calls: sheets -/
section HSR
theorem hs_nn {α γ : Type} (x : α) (k : α → γ) : nb_n x k = k x := Eq.trans rfl rfl
theorem hs_SH.kp {o nu : Nat → Int32} {i : Nat} {N N' : nb_M} (h : hs_SH o nu i N) (h4 : N'.1 4 i = N.1 4 i) (h5 : N'.1 5 i = N.1 5 i) (h6 : ∀ k, k < 24 → N'.1 6 (24 * i + k) = N.1 6 (24 * i + k)) : hs_SH o nu i N' := by
  obtain ⟨w, n, a, b, c, d, e, f, g, k⟩ := h
  exact ⟨w, n, a, b, c, d, e, h4.trans f, h5.trans g, fun j hj => (h6 j hj).trans (k j hj)⟩
variable {M N : nb_M}
theorem hs_Rel.sheet {M' N' : nb_M} (R : hs_Rel M N) {t : Nat} (ht : t < 4) (hc : ∀ k, k ≠ 43 + 2 * t → k ≠ 44 + 2 * t → M'.1 k = M.1 k) (hd : ∀ k, k ≠ 4 → k ≠ 5 → k ≠ 6 → N'.1 k = N.1 k) (h4 : ∀ i, i ≠ t → N'.1 4 i = N.1 4 i) (h5 : ∀ i, i ≠ t → N'.1 5 i = N.1 5 i) (h6 : ∀ i k, i ≠ t → k < 24 → N'.1 6 (24 * i + k) = N.1 6 (24 * i + k)) (hs : hs_SH (M'.1 (43 + 2 * t)) (M'.1 (44 + 2 * t)) t N') : hs_Rel M' N' := by
  obtain ⟨a1, a2, a3, a4, a5, a6, s0, s1, s2, s3⟩ := R
  have ho : ∀ b, b ≤ 18 → hs_ho b M' = hs_ho b M := by
    intro b hb
    funext k
    by_cases hx : k = 13 ∨ k = 16 ∨ 16 < k
    · simp [hs_ho, hx]
    · simp only [hs_ho, if_neg hx]
      exact hc (b + k) (by omega) (by omega)
  have c0 : M'.1 0 = M.1 0 := hc 0 (by omega) (by omega)
  have d0 : N'.1 0 = N.1 0 := hd 0 (by omega) (by omega) (by omega)
  have go : ∀ i, i < 4 → hs_SH (M.1 (43 + 2 * i)) (M.1 (44 + 2 * i)) i N → hs_SH (M'.1 (43 + 2 * i)) (M'.1 (44 + 2 * i)) i N' := by
    intro i _ s
    by_cases e : i = t
    · subst e; exact hs
    · rw [hc (43 + 2 * i) (by omega) (by omega), hc (44 + 2 * i) (by omega) (by omega)]
      exact s.kp (h4 i e) (h5 i e) (fun k hk => h6 i k e hk)
  refine ⟨by rw [ho 1 (by omega), hd 1 (by omega) (by omega) (by omega)]; exact a1, by rw [ho 1 (by omega)]; exact a2, by rw [c0, d0]; exact a3, by rw [c0, ho 18 (by omega), hd 2 (by omega) (by omega) (by omega)]; exact a4, ?_, ?_, go 0 (by omega) s0, go 1 (by omega) s1, go 2 (by omega) s2, go 3 (by omega) s3⟩
  · rw [hd 3 (by omega) (by omega) (by omega)]
    intro k h1 h2
    rw [hc 51 (by omega) (by omega)]
    exact a5 k h1 h2
  · unfold hs_TR
    rw [hc 40 (by omega) (by omega), hc 41 (by omega) (by omega), d0, hd 12 (by omega) (by omega) (by omega)]
    exact a6
theorem hs_rbg {t : Nat} (ht : t < 4) : ∀ (n i : Nat) (K : nb_M), i ≤ 24 → 24 - i < n → ∃ K', f_X7_sheet_93 n K (nI t) (nI i) = some (1, K') ∧ (∀ c, c ≠ 6 → K'.1 c = K.1 c) ∧ (∀ j, i ≤ j → j < 24 → K'.1 6 (24 * t + j) = 0) ∧ (∀ m, (m < 24 * t + i ∨ 24 * t + 24 ≤ m) → K'.1 6 m = K.1 6 m) := by
  intro n
  induction n with
  | zero => intro i K _ h; omega
  | succ n ih =>
    intro i K hi hn
    rw [f_X7_sheet_93]
    by_cases hl : i < 24
    · have x0 : ((24 : Int32) * nI t) + nI i = nI (24 * t + i) := by rw [show (24 : Int32) = nI 24 from rfl, pk_mul, nI_add]
      rw [if_neg (show ¬ (24 : Int32) ≤ nI i from nI_ge (b := 24) hl (by decide)), x0, if_neg (nI_in (show 24 * t + i < 96 by omega) (by decide)), nI_clamp (show 24 * t + i < 2 ^ 31 by omega)]
      simp only [nb_n]
      rw [nI_1]
      obtain ⟨K', g1, g2, g3, g4⟩ := ih (i + 1) (nb_i K 6 (24 * t + i) 0) (by omega) (by omega)
      refine ⟨K', g1, fun c hc => ?_, fun j h1 h2 => ?_, fun m hm => ?_⟩
      · rw [g2 c hc]; simp only [nb_i, nb_r, if_neg hc]
      · by_cases e : j = i
        · subst e
          rw [g4 _ (by omega)]
          show upd (K.1 6) (24 * t + j) 0 (24 * t + j) = _
          rw [hs_upd_s]
        · exact g3 j (by omega) h2
      · rw [g4 m (by omega)]
        show upd (K.1 6) (24 * t + i) 0 m = _
        rw [hs_upd_n (by omega)]
    · have : i = 24 := by omega
      subst this
      rw [if_pos (show (24 : Int32) ≤ nI 24 from by decide)]
      exact ⟨K, rfl, fun _ _ => rfl, fun j h1 h2 => by omega, fun _ _ => rfl⟩
theorem hs_rs68 {t w z : Nat} (ht : t < 4) {x : Int32} (h0 : w = 0 → z = 0) (hw : w < 100) (hx : w = 0 ∨ x = nI z) : ∃ N', f_X7_sheet_68 N (nI t) (nI w) x = some (1, N') ∧ (∀ k, k ≠ 4 → k ≠ 5 → k ≠ 6 → N'.1 k = N.1 k) ∧ (∀ i, i ≠ t → N'.1 4 i = N.1 4 i) ∧ (∀ i, i ≠ t → N'.1 5 i = N.1 5 i) ∧ (∀ i k, i ≠ t → k < 24 → N'.1 6 (24 * i + k) = N.1 6 (24 * i + k)) ∧ N'.1 4 t = nI w ∧ N'.1 5 t = nI z ∧ ∀ k, k < 24 → N'.1 6 (24 * t + k) = 0 := by
  have key : f_X7_sheet_68 N (nI t) (nI w) x = f_X7_sheet_93 nb_F (nb_i (nb_i N 4 t (nI w)) 5 t (nI z)) (nI t) (nI 0) := by
    unfold f_X7_sheet_68
    rw [if_neg (nI_in ht (by decide)), nI_clamp (show t < 2 ^ 31 by omega)]
    simp only [nb_n]
    by_cases y : w = 0
    · subst y
      rw [if_pos (show nI 0 = 0 from rfl), h0 rfl]; rfl
    · rw [if_neg (show ¬ nI w = 0 from hs_ne (b := 0) y (by omega) (by decide)), hx.resolve_left y]; rfl
  rw [key]
  obtain ⟨K', g1, g2, g3, g4⟩ := hs_rbg ht nb_F 0 (nb_i (nb_i N 4 t (nI w)) 5 t (nI z)) (by omega) (by have := hs_F; omega)
  refine ⟨K', g1, fun k h4 h5 h6 => ?_, fun i hi => ?_, fun i hi => ?_, fun i k hi hk => ?_, ?_, ?_, fun k hk => g3 k (by omega) hk⟩
  · rw [g2 k h6, hs_gi h5, hs_gi h4]
  · rw [g2 4 (by omega)]
    show upd (N.1 4) t (nI w) i = _
    rw [hs_upd_n hi]
  · rw [g2 5 (by omega)]
    show upd (N.1 5) t (nI z) i = _
    rw [hs_upd_n hi]
  · rw [g4 _ (by omega)]; rfl
  · rw [g2 4 (by omega)]
    show upd (N.1 4) t (nI w) t = _
    rw [hs_upd_s]
  · rw [g2 5 (by omega)]
    show upd (N.1 5) t (nI z) t = _
    rw [hs_upd_s]
end HSR
