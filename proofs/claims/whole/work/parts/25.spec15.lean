/-! the calls: voices -/
set_option maxHeartbeats 400000
section HSW
variable {M N : nb_M} {a : Nat}
def hs_W (a : Nat) (M N : nb_M) : Prop := hs_Rel M N ∧ M.1 40 3 = hs_ho 1 M 4 a ∧ M.1 40 4 = nI a ∧ M.1 40 5 = hs_ho 1 M 5 a ∧ M.1 40 2 = N.1 0 20
def hs_SW (a : Nat) (x y : Option (Int32 × nb_M)) : Prop := ∃ v M' N', x = some (v, M') ∧ y = some (v, N') ∧ hs_W a M' N'
theorem hs_SWb {x y : Option (Int32 × nb_M)} {f g : Int32 → nb_M → Option (Int32 × nb_M)} {P : Option (Int32 × nb_M) → Option (Int32 × nb_M) → Prop} (h : hs_SW a x y) (k : ∀ v M' N', hs_W a M' N' → P (f v M') (g v N')) : P (nb_p x f) (nb_p y g) := by
  obtain ⟨v, M', N', rfl, rfl, w⟩ := h
  exact k v M' N' w
theorem hs_SW1 {x y : Option (Int32 × nb_M)} (h : hs_SW a x y) : hs_SW a x (nb_p y fun r M => some (r, M)) := by
  obtain ⟨v, M', N', rfl, rfl, w⟩ := h
  exact ⟨v, M', N', rfl, rfl, w⟩
theorem hs_SW2 {x y : Option (Int32 × nb_M)} (h : hs_SW a x y) (f : Int32 → Int32) : hs_SW a (nb_p x fun r M => some (f r, M)) (nb_p y fun r M => some (f r, M)) := by
  obtain ⟨v, M', N', rfl, rfl, w⟩ := h
  exact ⟨_, M', N', rfl, rfl, w⟩
theorem hs_Rel.tr {M' N' : nb_M} (R : hs_Rel M N) (hc : ∀ k, k ≠ 40 → k ≠ 41 → M'.1 k = M.1 k) (hd : ∀ k, k ≠ 0 → k ≠ 12 → N'.1 k = N.1 k) (h2 : N'.1 0 2 = N.1 0 2) (ht : hs_TR M' N') : hs_Rel M' N' := by
  obtain ⟨a1, a2, a3, a4, a5, a6, s0, s1, s2, s3⟩ := R
  have ho : ∀ b, b ≤ 18 → hs_ho b M' = hs_ho b M := by
    intro b hb
    funext k
    by_cases hx : k = 13 ∨ k = 16 ∨ 16 < k
    · simp [hs_ho, hx]
    · simp only [hs_ho, if_neg hx]
      exact hc (b + k) (by omega) (by omega)
  have c0 : M'.1 0 = M.1 0 := hc 0 (by omega) (by omega)
  have d4 : N'.1 4 = N.1 4 := hd 4 (by omega) (by omega)
  have d5 : N'.1 5 = N.1 5 := hd 5 (by omega) (by omega)
  have d6 : N'.1 6 = N.1 6 := hd 6 (by omega) (by omega)
  refine ⟨by rw [ho 1 (by omega), hd 1 (by omega) (by omega)]; exact a1, by rw [ho 1 (by omega)]; exact a2, by rw [c0, h2]; exact a3, by rw [c0, ho 18 (by omega), hd 2 (by omega) (by omega)]; exact a4, ?_, ht, s0.keep (hc 43 (by omega) (by omega)) (hc 44 (by omega) (by omega)) d4 d5 d6, s1.keep (hc 45 (by omega) (by omega)) (hc 46 (by omega) (by omega)) d4 d5 d6, s2.keep (hc 47 (by omega) (by omega)) (hc 48 (by omega) (by omega)) d4 d5 d6, s3.keep (hc 49 (by omega) (by omega)) (hc 50 (by omega) (by omega)) d4 d5 d6⟩
  rw [hd 3 (by omega) (by omega), hc 51 (by omega) (by omega)]
  exact a5
theorem hs_W.beg (w : hs_W a M N) (c : Int32) : ∃ M' N', f_X5_begins M c = some M' ∧ f_X7_begins N c = some N' ∧ hs_W a M' N' := by
  obtain ⟨R, w3, w4, w5, w2⟩ := w
  obtain ⟨t, ht, e1, e2, e3⟩ := R.2.2.2.2.2.1
  unfold f_X5_begins f_X7_begins
  rw [e1, e2]
  by_cases hl : t < 30
  · have k1 : (nb_i M 41 t c).1 40 1 = nI t := e1
    have k2 : (nb_i N 12 t c).1 0 19 = nI t := e2
    rw [if_neg (show ¬ (30 : Int32) ≤ nI t from nI_ge (b := 30) hl (by decide)), if_neg (show ¬ (30 : Int32) ≤ nI t from nI_ge (b := 30) hl (by decide)), if_neg (nI_in hl (by decide)), if_neg (nI_in hl (by decide)), nI_clamp (show t < 2 ^ 31 by omega), hs_nn, hs_nn, hs_nn, hs_nn, k1, k2, nI_1]
    refine ⟨_, _, rfl, rfl, R.tr (fun k h1 h2 => by rw [hs_gi h1, hs_gi h2]) (fun k h1 h2 => by rw [hs_gi h1, hs_gi h2]) rfl ⟨t + 1, by omega, rfl, rfl, fun i hi => ?_⟩, ?_, w4, ?_, w2⟩
    · show upd (N.1 12) t c i = upd (M.1 41) t c i
      by_cases y : i = t
      · subst y; rw [hs_upd_s, hs_upd_s]
      · rw [hs_upd_n y, hs_upd_n y, e3 i (by omega)]
    · rw [hs_hoO (by omega), hs_hoO (by omega)]; exact w3
    · rw [hs_hoO (by omega), hs_hoO (by omega)]; exact w5
  · have : t = 30 := by omega
    subst this
    rw [if_pos (show (30 : Int32) ≤ nI 30 from by decide), if_pos (show (30 : Int32) ≤ nI 30 from by decide)]
    exact ⟨M, N, rfl, rfl, R, w3, w4, w5, w2⟩
theorem hs_W.kind (w : hs_W a M N) (ha : a < 9) : f_X7_of N (nI a) 0 = some (M.1 40 3) := by rw [hs_of0 w.1.1 ha, w.2.1]
theorem hs_W.num (w : hs_W a M N) (ha : a < 9) : f_X7_of N (nI a) 1 = some (M.1 40 5) := by rw [hs_of1 w.1.1 ha, w.2.2.2.1]
/-- one more line of the trace, then on -/
theorem hs_SWc (w : hs_W a M N) (c : Int32) {f g : nb_M → Option (Int32 × nb_M)} (k : ∀ M' N', hs_W a M' N' → hs_SW a (f M') (g N')) : hs_SW a (nb_o (f_X5_begins M c) f) (nb_o (f_X7_begins N c) g) := by
  obtain ⟨M', N', h1, h2, h3⟩ := w.beg c
  rw [h1, h2]
  exact k M' N' h3
theorem hs_pr (w : hs_W a M N) (rc : Nat → nb_M → Int32 → Int32 → Option (Int32 × nb_M)) {k : Int32} (h1 : ¬ k = 1) (h4 : ¬ k = 4) (h6 : ¬ k = 6) (p : Int32) : hs_SW a (f_X5_rings rc M k p) (f_X7_plainRings N (nI a) p) := by
  unfold f_X5_rings f_X7_plainRings
  rw [if_neg h1, if_neg h4, if_neg h6]
  exact hs_SWc w 10 (fun M' N' w' => ⟨_, _, _, rfl, by rw [w'.2.2.1], w'⟩)
theorem hs_VR (d : Nat) (M : nb_M) (k p : Int32) : f_VR (d + 1) 0 M k p = f_X5_rings (f_VR d) M k p := by rw [f_VR, if_pos rfl]
theorem hs_VS (d : Nat) (M : nb_M) (k p : Int32) : f_VS (d + 1) 0 M k p = f_X5_slips (f_VS d) M k p := by rw [f_VS, if_pos rfl]
theorem hs_VC (d : Nat) (M : nb_M) (k p : Int32) : f_VC (d + 1) 0 M k p = f_X5_cracks (f_VC d) M k p := by rw [f_VC, if_pos rfl]
theorem hs_VP (d : Nat) (M : nb_M) (k p : Int32) : f_VP (d + 1) 0 M k p = f_X5_parts (f_VP d) M k p := by rw [f_VP, if_pos rfl]
theorem hs_cu (w : hs_W a M N) (d : Nat) (p : Int32) : hs_SW a (f_X5_rings (f_VR (d + 1)) M 1 p) (f_X7_cupRings N (nI a) p) := by
  unfold f_X5_rings f_X7_cupRings
  rw [if_pos rfl]
  exact hs_SWc w 20 (fun M' N' w' => hs_SW2 (by rw [hs_VR]; exact hs_pr w' _ (by decide) (by decide) (by decide) p) (fun r => r - 4))
theorem hs_ri (w : hs_W a M N) (ha : a < 9) (p : Int32) : hs_SW a (f_X5_rings_x M (M.1 40 3) p) (f_X7_rings N (nI a) p) := by
  have hD : nb_dp = 61 + 1 + 1 + 1 := rfl
  unfold f_X5_rings_x f_X7_rings
  rw [hD, hs_VR, w.kind ha]
  simp only [nb_o]
  by_cases h1 : M.1 40 3 = 1
  · rw [if_pos h1, h1]
    exact hs_SW1 (hs_cu w _ p)
  · rw [if_neg h1]
    by_cases h4 : M.1 40 3 = 4
    · rw [if_pos h4, h4]
      unfold f_X5_rings
      rw [if_neg (show ¬ (4 : Int32) = 1 from by decide), if_pos (rfl : (4 : Int32) = 4)]
      exact hs_SWc w 50 (fun M' N' w' => hs_SW2 (by rw [hs_VR]; exact hs_cu w' _ p) (fun r => r * 3))
    · rw [if_neg h4]
      by_cases h6 : M.1 40 3 = 6
      · rw [if_pos h6, h6]
        unfold f_X5_rings
        rw [if_neg (show ¬ (6 : Int32) = 1 from by decide), if_neg (show ¬ (6 : Int32) = 4 from by decide), if_pos (rfl : (6 : Int32) = 6)]
        exact hs_SWc w 70 (fun M' N' w' => ⟨_, _, _, rfl, rfl, w'⟩)
      · rw [if_neg h6]
        exact hs_SW1 (hs_pr w _ h1 h4 h6 p)
theorem hs_ps' (w : hs_W a M N) (ha : a < 9) (rc : Nat → nb_M → Int32 → Int32 → Option (Int32 × nb_M)) {k : Int32} (h1 : ¬ k = 2) (h4 : ¬ k = 5) (h6 : ¬ k = 6) (p : Int32) : hs_SW a (f_X5_slips rc M k p) (f_X7_plainSlips N (nI a) p) := by
  unfold f_X5_slips f_X7_plainSlips
  rw [if_neg h1, if_neg h4, if_neg h6]
  exact hs_SWc w 11 (fun M' N' w' => hs_SW2 (hs_ri w' ha p) (fun r => r * 2))
theorem hs_bo (w : hs_W a M N) (ha : a < 9) (d : Nat) (p : Int32) : hs_SW a (f_X5_slips (f_VS (d + 1)) M 2 p) (f_X7_boatSlips N (nI a) p) := by
  unfold f_X5_slips f_X7_boatSlips
  rw [if_pos rfl]
  refine hs_SWc w 30 (fun M' N' w' => ?_)
  have e : ∀ r : Int32, -r = 0 - r := fun r => (Int32.zero_sub r).symm
  simp only [e]
  exact hs_SW2 (by rw [hs_VS]; exact hs_ps' w' ha _ (by decide) (by decide) (by decide) p) (fun r => 0 - r)
theorem hs_sl' (w : hs_W a M N) (ha : a < 9) (p : Int32) : hs_SW a (f_X5_slips_x M (M.1 40 3) p) (f_X7_slips N (nI a) p) := by
  have hD : nb_dp = 61 + 1 + 1 + 1 := rfl
  unfold f_X5_slips_x f_X7_slips
  rw [hD, hs_VS, w.kind ha]
  simp only [nb_o]
  by_cases h2 : M.1 40 3 = 2
  · rw [if_pos h2, h2]
    exact hs_SW1 (hs_bo w ha _ p)
  · rw [if_neg h2]
    by_cases h5 : M.1 40 3 = 5
    · rw [if_pos h5, h5]
      unfold f_X5_slips
      rw [if_neg (show ¬ (5 : Int32) = 2 from by decide), if_pos (rfl : (5 : Int32) = 5)]
      exact hs_SWc w 60 (fun M' N' w' => hs_SW2 (by rw [hs_VS]; exact hs_bo w' ha _ (p + 1)) (fun r => r))
    · rw [if_neg h5]
      by_cases h6 : M.1 40 3 = 6
      · rw [if_pos h6, h6]
        unfold f_X5_slips
        rw [if_neg (show ¬ (6 : Int32) = 2 from by decide), if_neg (show ¬ (6 : Int32) = 5 from by decide), if_pos (rfl : (6 : Int32) = 6)]
        refine hs_SWc w 71 (fun M' N' w' => hs_SWb (P := hs_SW a) (by rw [hs_VS]; exact hs_ps' w' ha _ (by decide) (by decide) (by decide) p) (fun v M2 N2 w2 => ?_))
        rw [w2.num ha]
        exact ⟨_, _, _, rfl, rfl, w2⟩
      · rw [if_neg h6]
        exact hs_SW1 (hs_ps' w ha _ h2 h5 h6 p)
theorem hs_pc (w : hs_W a M N) (ha : a < 9) (rc : Nat → nb_M → Int32 → Int32 → Option (Int32 × nb_M)) {k : Int32} (h3 : ¬ k = 3) (h4 : ¬ k = 4) (p : Int32) : hs_SW a (f_X5_cracks rc M k p) (f_X7_plainCracks N (nI a) p) := by
  unfold f_X5_cracks f_X7_plainCracks
  rw [if_neg h3, if_neg h4]
  refine hs_SWc w 12 (fun M' N' w' => hs_SWb (P := hs_SW a) (hs_sl' w' ha p) (fun v M2 N2 w2 => ?_))
  rw [w2.num ha]
  exact ⟨_, _, _, rfl, rfl, w2⟩
theorem hs_cr' (w : hs_W a M N) (ha : a < 9) (p : Int32) : hs_SW a (f_X5_cracks_x M (M.1 40 3) p) (f_X7_cracks N (nI a) p) := by
  have hD : nb_dp = 61 + 1 + 1 + 1 := rfl
  unfold f_X5_cracks_x f_X7_cracks
  rw [hD, hs_VC, w.kind ha]
  simp only [nb_o]
  by_cases h3 : M.1 40 3 = 3
  · rw [if_pos h3, h3]
    unfold f_X5_cracks
    rw [if_pos (rfl : (3 : Int32) = 3)]
    exact hs_SWc w 40 (fun M' N' w' => hs_SW2 (by rw [hs_VC]; exact hs_pc w' ha _ (by decide) (by decide) (p / 2)) (fun r => r))
  · rw [if_neg h3]
    by_cases h4 : M.1 40 3 = 4
    · rw [if_pos h4, h4]
      unfold f_X5_cracks
      rw [if_neg (show ¬ (4 : Int32) = 3 from by decide), if_pos (rfl : (4 : Int32) = 4)]
      refine hs_SWc w 51 (fun M' N' w' => hs_SWb (P := hs_SW a) (by rw [hs_VC]; exact hs_pc w' ha _ (by decide) (by decide) p) (fun v M2 N2 w2 => ?_))
      exact ⟨_, _, _, rfl, by rw [w2.2.2.1], w2⟩
    · rw [if_neg h4]
      exact hs_SW1 (hs_pc w ha _ h3 h4 p)
theorem hs_W.part (w : hs_W a M N) (x : Int32) : hs_W a (nb_i M 40 2 x) (nb_i N 0 20 x) := by
  obtain ⟨R, w3, w4, w5, w2⟩ := w
  obtain ⟨t, ht, e1, e2, e3⟩ := R.2.2.2.2.2.1
  refine ⟨R.tr (fun k h1 _ => hs_gi h1) (fun k h1 _ => hs_gi h1) rfl ⟨t, ht, e1, e2, e3⟩, ?_, w4, ?_, rfl⟩
  · rw [hs_hoO (by omega)]; exact w3
  · rw [hs_hoO (by omega)]; exact w5
theorem hs_oo {α β : Type} (x : α) (f : α → Option β) : nb_o (some x) f = f x := Eq.trans rfl rfl
theorem hs_pp (w : hs_W a M N) (ha : a < 9) (rc : Nat → nb_M → Int32 → Int32 → Option (Int32 × nb_M)) {k : Int32} (h1 : ¬ k = 1) (h4 : ¬ k = 4) (p : Int32) : hs_SW a (f_X5_parts rc M k p) (f_X7_plainParts N (nI a) p) := by
  unfold f_X5_parts f_X7_plainParts
  rw [if_neg h1, if_neg h4]
  refine hs_SWc w 13 (fun M' N' w' => ?_)
  rw [w'.num ha, hs_nn]
  rw [hs_oo, w'.2.2.1, hs_nn (M'.1 40 5 - nI a)]
  by_cases z : M'.1 40 5 - nI a = 0
  · rw [if_pos z, if_pos z, hs_nn, hs_nn]
    rw [if_neg (show ¬ (nb_i M' 40 2 1).1 40 2 = 0 from hs_10), if_neg (show ¬ (nb_i N' 0 20 1).1 0 20 = 0 from hs_10)]
    exact ⟨_, _, _, rfl, rfl, w'.part 1⟩
  · rw [if_neg z, if_neg z, hs_nn, hs_nn]
    rw [if_pos (show (nb_i M' 40 2 0).1 40 2 = 0 from rfl), if_pos (show (nb_i N' 0 20 0).1 0 20 = 0 from rfl), if_neg z, if_neg z]
    exact ⟨_, _, _, rfl, rfl, w'.part 0⟩
theorem hs_p10 (w : hs_W a M N) (ha : a < 9) (d : Nat) (p : Int32) : hs_SW a (f_X5_parts_10 (f_VP (d + 1)) M p) (f_X7_partsBy_20 N (nI a) p) := by
  unfold f_X5_parts_10 f_X7_partsBy_20
  refine hs_SWc w 21 (fun M' N' w' => hs_SWb (P := hs_SW a) (by rw [hs_VP]; exact hs_pp w' ha _ (by decide) (by decide) p) (fun v M2 N2 w2 => ?_))
  rw [w2.2.2.2.2]
  by_cases z : N2.1 0 20 = 0
  · rw [if_pos z, if_pos z]
    exact hs_SW2 (hs_sl' w2 ha 1) (fun r => v + r)
  · rw [if_neg z, if_neg z]
    exact ⟨_, _, _, rfl, rfl, w2⟩
theorem hs_pa (w : hs_W a M N) (ha : a < 9) (p : Int32) : hs_SW a (f_X5_parts_x M (M.1 40 3) p) (f_X7_partsBy N (nI a) p) := by
  have hD : nb_dp = 61 + 1 + 1 + 1 := rfl
  unfold f_X5_parts_x f_X7_partsBy
  rw [hD, hs_VP, w.kind ha]
  simp only [nb_o]
  by_cases h1 : M.1 40 3 = 1
  · rw [if_pos h1, h1]
    unfold f_X5_parts
    rw [if_pos (rfl : (1 : Int32) = 1)]
    exact hs_p10 w ha _ p
  · rw [if_neg h1]
    by_cases h4 : M.1 40 3 = 4
    · rw [if_pos h4, h4]
      unfold f_X5_parts
      rw [if_neg (show ¬ (4 : Int32) = 1 from by decide), if_pos (rfl : (4 : Int32) = 4)]
      exact hs_p10 w ha _ p
    · rw [if_neg h4]
      exact hs_SW1 (hs_pp w ha _ h1 h4 p)
theorem hs_vf {x y : Option (Int32 × nb_M)} (h : hs_SW a x y) : hs_S (nb_p (nb_p x fun r M => some (r, M)) fun r M => if M.1 40 2 = 0 then some (r, M) else nb_p (f_X6_fail M 6) fun r M => some (r, M)) (nb_p y fun r N => if N.1 0 20 = 0 then some (r, N) else nb_p (f_X7_error N (-1000000006)) fun r M => some (r, M)) := by
  obtain ⟨v, M', N', rfl, rfl, w⟩ := h
  show hs_S (if M'.1 40 2 = 0 then _ else _) (if N'.1 0 20 = 0 then _ else _)
  rw [w.2.2.2.2]
  by_cases z : N'.1 0 20 = 0
  · rw [if_pos z, if_pos z]; exact ⟨_, _, _, rfl, rfl, w.1⟩
  · rw [if_neg z, if_neg z]; exact hs_e6 w.1
theorem s_voice (R : hs_Rel M N) (p0 p1 p2 : Int32) : hs_S (f_X6_voice M p0 p1 p2) (f_X7_voice N p0 p1 p2) := by
  unfold f_X6_voice f_X7_voice
  rcases hs_pie R p0 with ⟨c1, d1, a, ha, -, rfl⟩ | ⟨c1, d1⟩
  · rw [c1, d1, if_neg hs_10, if_neg hs_10]
    rcases hs_wi p1 (b := 3) (by decide) (B := 3) rfl with ⟨c2, d2, t, ht, rfl⟩ | ⟨c2, d2⟩
    · rw [c2, d2, if_neg hs_10, if_neg hs_10, if_neg (nI_in ha (by decide)), nI_clamp (show a < 2 ^ 31 by omega), hs_nn, hs_nn, hs_nn]
      have w : hs_W a (f_X5_turnTo M (M.1 5 a) (nI a) (M.1 6 a)) (nb_i (nb_i N 0 19 0) 0 20 0) := by
        unfold f_X5_turnTo
        rw [hs_nn, hs_nn, hs_nn, hs_nn, hs_nn]
        refine ⟨R.tr (fun k h1 _ => by rw [hs_gi h1, hs_gi h1, hs_gi h1, hs_gi h1, hs_gi h1]) (fun k h1 _ => by rw [hs_gi h1, hs_gi h1]) rfl ⟨0, by omega, rfl, rfl, fun i hi => by omega⟩, ?_, rfl, ?_, rfl⟩
        · rw [hs_hoO (by omega), hs_hoO (by omega), hs_hoO (by omega), hs_hoO (by omega), hs_hoO (by omega)]; rfl
        · rw [hs_hoO (by omega), hs_hoO (by omega), hs_hoO (by omega), hs_hoO (by omega), hs_hoO (by omega)]; rfl
      unfold f_X5_say
      have ht4 : t = 0 ∨ t = 1 ∨ t = 2 ∨ t = 3 := by omega
      rcases ht4 with rfl | rfl | rfl | rfl
      · rw [if_pos (show nI 0 = 0 from rfl), if_pos (show nI 0 = 0 from rfl)]
        exact hs_vf (hs_ri w ha p2)
      · rw [if_neg (show ¬ nI 1 = 0 from by decide), if_neg (show ¬ nI 1 = 0 from by decide), if_pos (show nI 1 = 1 from rfl), if_pos (show nI 1 = 1 from rfl)]
        exact hs_vf (hs_sl' w ha p2)
      · rw [if_neg (show ¬ nI 2 = 0 from by decide), if_neg (show ¬ nI 2 = 0 from by decide), if_neg (show ¬ nI 2 = 1 from by decide), if_neg (show ¬ nI 2 = 1 from by decide), if_pos (show nI 2 = 2 from rfl), if_pos (show nI 2 = 2 from rfl)]
        exact hs_vf (hs_cr' w ha p2)
      · rw [if_neg (show ¬ nI 3 = 0 from by decide), if_neg (show ¬ nI 3 = 0 from by decide), if_neg (show ¬ nI 3 = 1 from by decide), if_neg (show ¬ nI 3 = 1 from by decide), if_neg (show ¬ nI 3 = 2 from by decide), if_neg (show ¬ nI 3 = 2 from by decide)]
        exact hs_vf (hs_pa w ha p2)
    · rw [c2, d2, if_pos rfl, if_pos rfl]; exact hs_e1 R
  · rw [c1, d1, if_pos rfl, if_pos rfl]; exact hs_e1 R
end HSW
