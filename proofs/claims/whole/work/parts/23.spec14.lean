/-! the calls: moving numbers from sheet to sheet -/
set_option maxHeartbeats 400000
section HSV
variable {M N : nb_M}
def hs_hs (z x y : Int32) : Int32 := if x < 0 then 0 else if y < 0 then 0 else if z < x then 0 else if z - x < y then 0 else 1
theorem hs_has {z : Nat} (hz : z ≤ 24) (x y : Int32) : (hs_hs (nI z) x y = 1 ∧ ¬ y < 0 ∧ ¬ x < 0 ∧ ¬ nI z - x < y ∧ ∃ a c, a + c ≤ z ∧ x = nI a ∧ y = nI c) ∨ (hs_hs (nI z) x y = 0 ∧ (y < 0 ∨ x < 0 ∨ nI z - x < y)) := by
  unfold hs_hs
  by_cases h1 : x < 0
  · rw [if_pos h1]; exact Or.inr ⟨rfl, Or.inr (Or.inl h1)⟩
  rw [if_neg h1]
  by_cases h2 : y < 0
  · rw [if_pos h2]; exact Or.inr ⟨rfl, Or.inl h2⟩
  rw [if_neg h2]
  obtain ⟨a, ha, rfl⟩ := nI_of (x := x) h1
  obtain ⟨c, hc, rfl⟩ := nI_of (x := y) h2
  by_cases h3 : z < a
  · rw [if_pos (nI_lt h3 ha)]
    refine Or.inr ⟨rfl, Or.inr (Or.inr ?_)⟩
    rw [Int32.lt_iff_toInt_lt, Int32.toInt_sub, nI_toInt (show z < 2 ^ 31 by omega), nI_toInt ha, nI_toInt hc, Int.bmod_def]
    omega
  · rw [if_neg (nI_nlt (by omega) (by omega)), pk_sub (by omega)]
    by_cases h4 : z - a < c
    · rw [if_pos (nI_lt h4 hc)]; exact Or.inr ⟨rfl, Or.inr (Or.inr (nI_lt h4 hc))⟩
    · have h5 : ¬ nI (z - a) < nI c := nI_nlt (by omega) (by omega)
      rw [if_neg h5]
      exact Or.inl ⟨rfl, h2, h1, h5, a, c, by omega, rfl, rfl⟩
def hs_mr (f : Nat → Int32) (p q c : Nat) : Nat → Int32 := fun m => if q ≤ m ∧ m < q + c then f (p + (m - q)) else f m
theorem hs_mvu {s t a b c : Nat} (hs : s < 4) (ht : t < 4) (ha : a + c ≤ 24) (hb : b + c ≤ 24) (hba : b ≤ a) : ∀ (n j : Nat) (K : nb_M), (∀ k, k ≠ 6 → K.1 k = N.1 k) → (∀ m, K.1 6 m = hs_mr (N.1 6) (24 * s + a) (24 * t + b) j m) → j ≤ c → c - j < n → ∃ K', f_X7_move_28 n K (nI s) (nI a) (nI t) (nI b) (nI c) (nI j) = some (nI c, K') ∧ (∀ k, k ≠ 6 → K'.1 k = N.1 k) ∧ (∀ m, K'.1 6 m = hs_mr (N.1 6) (24 * s + a) (24 * t + b) c m) := by
  intro n
  induction n with
  | zero => intro j K _ _ _ h; omega
  | succ n ih =>
    intro j K hK h6 hj hn
    rw [f_X7_move_28]
    by_cases hl : j < c
    · have x1 : ((24 : Int32) * nI s + nI a) + nI j = nI (24 * s + a + j) := by rw [show (24 : Int32) = nI 24 from rfl, pk_mul, nI_add, nI_add]
      have x2 : ((24 : Int32) * nI t + nI b) + nI j = nI (24 * t + b + j) := by rw [show (24 : Int32) = nI 24 from rfl, pk_mul, nI_add, nI_add]
      rw [if_neg (nI_ge hl (by omega)), if_pos (nI_le hba (by omega)), x1, x2, if_neg (nI_in (show 24 * s + a + j < 96 by omega) (by decide)), if_neg (nI_in (show 24 * t + b + j < 96 by omega) (by decide)), nI_clamp (show 24 * s + a + j < 2 ^ 31 by omega), nI_clamp (show 24 * t + b + j < 2 ^ 31 by omega), hs_nn, nI_1]
      refine ih (j + 1) _ (fun k hk => ?_) (fun m => ?_) (by omega) (by omega)
      · rw [hs_gi hk]; exact hK k hk
      · show upd (K.1 6) (24 * t + b + j) (K.1 6 (24 * s + a + j)) m = _
        have r1 : K.1 6 (24 * s + a + j) = N.1 6 (24 * s + a + j) := by
          rw [h6]
          unfold hs_mr
          exact if_neg (by omega)
        by_cases e : m = 24 * t + b + j
        · subst e
          rw [hs_upd_s, r1]
          unfold hs_mr
          rw [if_pos (by omega)]
          exact congrArg (N.1 6) (by omega)
        · rw [hs_upd_n e, h6]
          unfold hs_mr
          by_cases y : 24 * t + b ≤ m ∧ m < 24 * t + b + j
          · rw [if_pos y, if_pos (by omega)]
          · rw [if_neg y, if_neg (by omega)]
    · have : j = c := by omega
      subst this
      rw [if_pos (nI_le (Nat.le_refl _) (by omega))]
      exact ⟨K, rfl, hK, h6⟩
theorem hs_mvd {s t a b c : Nat} (hs : s < 4) (ht : t < 4) (ha : a + c ≤ 24) (hb : b + c ≤ 24) (hba : a < b) : ∀ (n j : Nat) (K : nb_M), (∀ k, k ≠ 6 → K.1 k = N.1 k) → (∀ m, K.1 6 m = hs_mr (N.1 6) (24 * s + a + (c - j)) (24 * t + b + (c - j)) j m) → j ≤ c → c - j < n → ∃ K', f_X7_move_28 n K (nI s) (nI a) (nI t) (nI b) (nI c) (nI j) = some (nI c, K') ∧ (∀ k, k ≠ 6 → K'.1 k = N.1 k) ∧ (∀ m, K'.1 6 m = hs_mr (N.1 6) (24 * s + a) (24 * t + b) c m) := by
  intro n
  induction n with
  | zero => intro j K _ _ _ h; omega
  | succ n ih =>
    intro j K hK h6 hj hn
    rw [f_X7_move_28]
    by_cases hl : j < c
    · obtain ⟨v, hv⟩ : ∃ v, c = v + 1 + j := ⟨c - 1 - j, by omega⟩
      have xv : (nI c - 1) - nI j = nI v := by
        obtain ⟨u, hu⟩ : ∃ u, c = u + 1 := ⟨c - 1, by omega⟩
        rw [hu, nI_pred, pk_sub (by omega), show u - j = v by omega]
      have x1 : ((24 : Int32) * nI s + nI a) + nI v = nI (24 * s + a + v) := by rw [show (24 : Int32) = nI 24 from rfl, pk_mul, nI_add, nI_add]
      have x2 : ((24 : Int32) * nI t + nI b) + nI v = nI (24 * t + b + v) := by rw [show (24 : Int32) = nI 24 from rfl, pk_mul, nI_add, nI_add]
      rw [if_neg (nI_ge hl (by omega)), if_neg (nI_ge hba (by omega)), hs_nn, xv, x1, x2, if_neg (nI_in (show 24 * s + a + v < 96 by omega) (by decide)), if_neg (nI_in (show 24 * t + b + v < 96 by omega) (by decide)), nI_clamp (show 24 * s + a + v < 2 ^ 31 by omega), nI_clamp (show 24 * t + b + v < 2 ^ 31 by omega), hs_nn, nI_1]
      refine ih (j + 1) _ (fun k hk => ?_) (fun m => ?_) (by omega) (by omega)
      · rw [hs_gi hk]; exact hK k hk
      · show upd (K.1 6) (24 * t + b + v) (K.1 6 (24 * s + a + v)) m = _
        have r1 : K.1 6 (24 * s + a + v) = N.1 6 (24 * s + a + v) := by
          rw [h6]
          unfold hs_mr
          exact if_neg (by omega)
        by_cases e : m = 24 * t + b + v
        · subst e
          rw [hs_upd_s, r1]
          unfold hs_mr
          rw [if_pos (by omega)]
          exact congrArg (N.1 6) (by omega)
        · rw [hs_upd_n e, h6]
          unfold hs_mr
          by_cases y : 24 * t + b + (c - j) ≤ m ∧ m < 24 * t + b + (c - j) + j
          · rw [if_pos y, if_pos (by omega)]
            exact congrArg (N.1 6) (by omega)
          · rw [if_neg y, if_neg (by omega)]
    · have : j = c := by omega
      subst this
      rw [if_pos (nI_le (Nat.le_refl _) (by omega))]
      refine ⟨K, rfl, hK, fun m => ?_⟩
      rw [h6, Nat.sub_self, Nat.add_zero, Nat.add_zero]
theorem hs_mvx {s t a b c : Nat} (hs : s < 4) (ht : t < 4) (ha : a + c ≤ 24) (hb : b + c ≤ 24) : ∃ K', f_X7_move_28 nb_F N (nI s) (nI a) (nI t) (nI b) (nI c) 0 = some (nI c, K') ∧ (∀ k, k ≠ 6 → K'.1 k = N.1 k) ∧ (∀ m, K'.1 6 m = hs_mr (N.1 6) (24 * s + a) (24 * t + b) c m) := by
  have hm : ∀ p q m, N.1 6 m = hs_mr (N.1 6) p q 0 m := fun p q m => by
    unfold hs_mr
    exact (if_neg (by omega)).symm
  rw [hs_l0]
  rcases Nat.lt_or_ge a b with h | h
  · exact hs_mvd hs ht ha hb h nb_F 0 N (fun _ _ => rfl) (fun m => hm _ _ m) (by omega) (by have := hs_F; omega)
  · exact hs_mvu hs ht ha hb h nb_F 0 N (fun _ _ => rfl) (fun m => hm _ _ m) (by omega) (by have := hs_F; omega)
theorem hs_mvg (R : hs_Rel M N) {s t ot nt : Nat} {fo fn : Nat → Int32} (hs : s < 4) (ht : t < 4) (hot : ot = 43 + 2 * t) (hnt : nt = 44 + 2 * t) (Ss : hs_SH fo fn s N) (St : hs_SH (M.1 ot) (M.1 nt) t N) (p1 p3 p4 : Int32) : hs_S (if (if fo 1 = 0 then (1 : Int32) else 0) = 0 then (if (if M.1 ot 1 = 0 then (1 : Int32) else 0) = 0 then (if fo 1 = M.1 ot 1 then (if hs_hs (fo 2) p1 p4 = 0 then nb_p (f_X6_fail M 1) fun r M => some (r, M) else if hs_hs (M.1 ot 2) p3 p4 = 0 then nb_p (f_X6_fail M 1) fun r M => some (r, M) else if p1 < 0 ∨ p3 < 0 ∨ p4 < 0 ∨ 24 < p1.toNatClampNeg + p4.toNatClampNeg ∨ 24 < p3.toNatClampNeg + p4.toNatClampNeg then none else nb_n (nb_r M nt (va_cpy fn (M.1 nt) p1.toNatClampNeg p3.toNatClampNeg p4.toNatClampNeg)) fun M => some (p4, M)) else nb_p (f_X6_fail M 5) fun r M => some (r, M)) else nb_p (f_X6_fail M 2) fun r M => some (r, M)) else nb_p (f_X6_fail M 2) fun r M => some (r, M)) (f_X7_move N (nI s) p1 (nI t) p3 p4) := by
  obtain ⟨w, z, hw, hz, h0, e1, e2, e3, e4, e5⟩ := Ss
  obtain ⟨w', z', hw', hz', h0', e1', e2', e3', e4', e5'⟩ := St
  have i3 : ∀ u, u < 4 → f_X7_in (nI u) 0 3 = 1 := fun u hu => by
    rcases hs_wi (nI u) (b := 3) (by decide) (B := 3) rfl with ⟨-, d, -⟩ | ⟨-, d⟩
    · exact d
    · exfalso
      rw [hs_in, if_neg] at d
      · exact hs_10 d
      · rintro (q | q)
        · exact nI_pos (by omega) q
        · exact absurd q (nI_nlt (a := 3) (by omega) (by decide))
  unfold f_X7_move f_X7_notMoved f_X7_isSheet
  rw [i3 s hs, i3 t ht, if_neg hs_10, if_neg hs_10, if_neg (nI_in (c := s) (N := 4) hs (by decide)), if_neg (nI_in (c := t) (N := 4) ht (by decide)), nI_clamp (show s < 2 ^ 31 by omega), nI_clamp (show t < 2 ^ 31 by omega), e3, e3', e4, e4', e1, e1', e2, e2']
  have lw : ∀ u, u ≠ 0 → u < 100 → ¬ nI u = 0 := fun u h h' => hs_ne (b := 0) h (by omega) (by decide)
  by_cases y : w = 0
  · subst y
    rw [if_pos (show nI 0 = 0 from rfl), if_neg hs_10, if_pos (show nI 0 = 0 from rfl)]
    simp only [nb_o]
    rw [if_neg (by decide)]
    exact hs_e2 R
  rw [if_neg (lw w y (by omega)), if_pos (rfl : (0 : Int32) = 0), if_neg (lw w y (by omega))]
  by_cases y' : w' = 0
  · subst y'
    rw [if_pos (show nI 0 = 0 from rfl), if_neg hs_10, if_pos (show nI 0 = 0 from rfl)]
    simp only [nb_o]
    rw [if_neg (by decide)]
    exact hs_e2 R
  rw [if_neg (lw w' y' (by omega)), if_pos (rfl : (0 : Int32) = 0), if_neg (lw w' y' (by omega))]
  by_cases yw : nI w = nI w'
  · rw [if_pos yw, if_pos yw]
    have bad : ∀ c : Prop, [Decidable c] → c → ∀ f : Option Int32, (if c then some (-1000000001) else f) = some (-1000000001) := fun c _ h f => if_pos h
    have fin : ∀ r : Option Int32, r = some (-1000000001) → hs_S (nb_p (f_X6_fail M 1) fun r M => some (r, M)) (nb_o r fun r_1 => if r_1 = 0 then f_X7_move_28 nb_F N (nI s) p1 (nI t) p3 p4 0 else nb_p (f_X7_error N r_1) fun r M => some (r, M)) := by
      intro r hr
      subst hr
      simp only [nb_o]
      rw [if_neg (by decide)]
      exact hs_e1 R
    rcases hs_has hz p1 p4 with ⟨c, n4, n1, n5, a, k, hk, ea, ek⟩ | ⟨c, hc⟩
    · rcases hs_has hz' p3 p4 with ⟨c', m4, n3, n6, b, k', hk', eb, ek'⟩ | ⟨c', hc'⟩
      · rw [c, if_neg hs_10, c', if_neg hs_10, if_neg n4, if_neg n1, if_neg n3, if_neg n5, if_neg n6]
        subst ea; subst eb
        have cp : ∀ u, u ≤ 24 → (nI u).toNatClampNeg = u := fun u hu => nI_clamp (by omega)
        have ekk : k' = k := by
          have h := ek.symm.trans ek'
          rcases Nat.lt_or_ge k' (2 ^ 31) with g | g
          · exact ((nI_eq (by omega) g).mp h).symm
          · omega
        subst ekk
        subst ek
        rw [cp a (by omega), cp b (by omega), cp k' (by omega), if_neg (show ¬ (nI a < 0 ∨ nI b < 0 ∨ nI k' < 0 ∨ 24 < a + k' ∨ 24 < b + k') from by
          rintro (q | q | q | q | q)
          · exact n1 q
          · exact n3 q
          · exact n4 q
          · omega
          · omega)]
        obtain ⟨K', g1, g2, g3⟩ := hs_mvx (N := N) hs ht (show a + k' ≤ 24 by omega) (show b + k' ≤ 24 by omega)
        simp only [nb_o, ↓reduceIte]
        rw [g1, hs_nn]
        refine ⟨_, _, _, rfl, rfl, R.sheet ht (fun k h1 h2 => hs_gr (by omega)) (fun k _ _ h6 => g2 k h6) (fun i _ => by rw [g2 4 (by omega)]) (fun i _ => by rw [g2 5 (by omega)]) (fun i j hi hj => ?_) ⟨w', z', hw', hz', h0', ?_, ?_, ?_, ?_, fun j hj => ?_⟩⟩
        · rw [g3]
          unfold hs_mr
          exact if_neg (by omega)
        · rw [← hot, hs_gr (by omega)]; exact e1'
        · rw [← hot, hs_gr (by omega)]; exact e2'
        · rw [g2 4 (by omega)]; exact e3'
        · rw [g2 5 (by omega)]; exact e4'
        · rw [g3, ← hnt]
          have ev : (nb_r M nt (va_cpy fn (M.1 nt) a b k')).1 nt = va_cpy fn (M.1 nt) a b k' := by simp only [nb_r, if_true]
          rw [ev]
          unfold hs_mr va_cpy
          by_cases q : b ≤ j ∧ j < b + k'
          · rw [if_pos (by omega), if_pos q, ← e5 (a + (j - b)) (by omega)]
            exact congrArg (N.1 6) (by omega)
          · rw [if_neg (by omega), if_neg q]
            exact e5' j hj
      · rw [c, if_neg hs_10, c', if_pos rfl]
        refine fin _ ?_
        rcases hc' with h | h | h
        · exact if_pos h
        · rw [if_neg n4, if_neg n1]; exact if_pos h
        · rw [if_neg n4, if_neg n1]
          by_cases h3 : p3 < 0
          · exact if_pos h3
          · rw [if_neg h3, if_neg n5]; exact if_pos h
    · rw [c, if_pos rfl]
      refine fin _ ?_
      by_cases h4 : p4 < 0
      · exact if_pos h4
      rw [if_neg h4]
      by_cases h1 : p1 < 0
      · exact if_pos h1
      rw [if_neg h1]
      by_cases h3 : p3 < 0
      · exact if_pos h3
      rw [if_neg h3]
      exact if_pos ((hc.resolve_left h4).resolve_left h1)
  · rw [if_neg yw, if_neg yw]
    simp only [nb_o]
    rw [if_neg (by decide)]
    exact hs_e5 R
theorem hs_mvh {x : Option (Int32 × nb_M)} {c : Prop} [Decidable c] {z e : Option (Int32 × nb_M)} (h : hs_S (if c then (if c then x else e) else e) z) : hs_S (if c then x else e) z := by
  by_cases q : c
  · rw [if_pos q, if_pos q] at h; rw [if_pos q]; exact h
  · rw [if_neg q] at h; rw [if_neg q]; exact h
end HSV
