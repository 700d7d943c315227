set_option maxHeartbeats 400000
section HSR9
variable {M N : nb_M}
theorem hs_nsh {x : Int32} (d : f_X7_in x 0 3 = 0) : f_X7_notThere N x = some (-1000000001) := by
  unfold f_X7_notThere f_X7_isSheet
  rw [d, if_pos rfl]
theorem s_cares (R : hs_Rel M N) (p0 : Int32) : hs_S (f_X6_cares M p0) (f_X7_cares N p0) := by
  unfold f_X6_cares f_X7_cares f_X6_isSheet
  rcases hs_wi p0 (b := 3) (by decide) (B := 3) rfl with ⟨c1, d1, i, hi, rfl⟩ | ⟨c1, d1⟩
  · rw [c1, if_neg hs_10]
    have hi4 : i = 0 ∨ i = 1 ∨ i = 2 ∨ i = 3 := by omega
    rcases hi4 with rfl | rfl | rfl | rfl
    · rw [if_pos (show nI 0 = 0 from rfl)]; exact hs_cares0 R 
    · rw [if_neg (show ¬ nI 1 = 0 from by decide), if_pos (show nI 1 = 1 from rfl)]; exact hs_cares1 R 
    · rw [if_neg (show ¬ nI 2 = 0 from by decide), if_neg (show ¬ nI 2 = 1 from by decide), if_pos (show nI 2 = 2 from rfl)]; exact hs_cares2 R 
    · rw [if_neg (show ¬ nI 3 = 0 from by decide), if_neg (show ¬ nI 3 = 1 from by decide), if_neg (show ¬ nI 3 = 2 from by decide), if_pos (show nI 3 = 3 from rfl)]; exact hs_cares3 R 
  · rw [c1, if_pos rfl, hs_nsh d1]
    simp only [nb_o]
    rw [if_neg (by decide)]
    exact hs_e1 R
theorem s_judge (R : hs_Rel M N) (p0 : Int32) : hs_S (f_X6_judge M p0) (f_X7_judge N p0) := by
  unfold f_X6_judge f_X7_judge f_X6_isSheet
  rcases hs_wi p0 (b := 3) (by decide) (B := 3) rfl with ⟨c1, d1, i, hi, rfl⟩ | ⟨c1, d1⟩
  · rw [c1, if_neg hs_10]
    have hi4 : i = 0 ∨ i = 1 ∨ i = 2 ∨ i = 3 := by omega
    rcases hi4 with rfl | rfl | rfl | rfl
    · rw [if_pos (show nI 0 = 0 from rfl)]; exact hs_judge0 R 
    · rw [if_neg (show ¬ nI 1 = 0 from by decide), if_pos (show nI 1 = 1 from rfl)]; exact hs_judge1 R 
    · rw [if_neg (show ¬ nI 2 = 0 from by decide), if_neg (show ¬ nI 2 = 1 from by decide), if_pos (show nI 2 = 2 from rfl)]; exact hs_judge2 R 
    · rw [if_neg (show ¬ nI 3 = 0 from by decide), if_neg (show ¬ nI 3 = 1 from by decide), if_neg (show ¬ nI 3 = 2 from by decide), if_pos (show nI 3 = 3 from rfl)]; exact hs_judge3 R 
  · rw [c1, if_pos rfl, hs_nsh d1]
    simp only [nb_o]
    rw [if_neg (by decide)]
    exact hs_e1 R
theorem s_put (R : hs_Rel M N) (p0 p1 p2 : Int32) : hs_S (f_X6_put M p0 p1 p2) (f_X7_put N p0 p1 p2) := by
  unfold f_X6_put f_X6_isSheet
  rcases hs_wi p0 (b := 3) (by decide) (B := 3) rfl with ⟨c1, d1, i, hi, rfl⟩ | ⟨c1, d1⟩
  · rw [c1, if_neg hs_10]
    have hi4 : i = 0 ∨ i = 1 ∨ i = 2 ∨ i = 3 := by omega
    rcases hi4 with rfl | rfl | rfl | rfl
    · rw [if_pos (show nI 0 = 0 from rfl)]; exact hs_put0 R p1 p2
    · rw [if_neg (show ¬ nI 1 = 0 from by decide), if_pos (show nI 1 = 1 from rfl)]; exact hs_put1 R p1 p2
    · rw [if_neg (show ¬ nI 2 = 0 from by decide), if_neg (show ¬ nI 2 = 1 from by decide), if_pos (show nI 2 = 2 from rfl)]; exact hs_put2 R p1 p2
    · rw [if_neg (show ¬ nI 3 = 0 from by decide), if_neg (show ¬ nI 3 = 1 from by decide), if_neg (show ¬ nI 3 = 2 from by decide), if_pos (show nI 3 = 3 from rfl)]; exact hs_put3 R p1 p2
  · unfold f_X7_put
    rw [c1, if_pos rfl, hs_nsh d1]
    simp only [nb_o]
    rw [if_neg (by decide)]
    unfold f_X7_put_33
    rw [if_neg (by decide)]
    exact hs_e1 R
theorem hs_shc (R : hs_Rel M N) {i w z : Nat} (hi : i ≤ 3) (hw : w = 0 ∨ w = 8 ∨ w = 16 ∨ w = 32) (hz : z ≤ 24) (h0 : w = 0 → z = 0) {x : Int32} (hx : w = 0 ∨ x = nI z) : hs_S (if nI i = 0 then nb_o (f_X2_begin_43 M (nI w) (nI z)) fun M => some (1, M) else if nI i = 1 then nb_o (f_X2_begin_45 M (nI w) (nI z)) fun M => some (1, M) else if nI i = 2 then nb_o (f_X2_begin_47 M (nI w) (nI z)) fun M => some (1, M) else if nI i = 3 then nb_o (f_X2_begin_49 M (nI w) (nI z)) fun M => some (1, M) else none) (f_X7_sheet_68 N (nI i) (nI w) x) := by
  have hi4 : i = 0 ∨ i = 1 ∨ i = 2 ∨ i = 3 := by omega
  rcases hi4 with rfl | rfl | rfl | rfl
  · rw [if_pos (show nI 0 = 0 from rfl)]; exact hs_set0 R hw hz h0 hx
  · rw [if_neg (show ¬ nI 1 = 0 from by decide), if_pos (show nI 1 = 1 from rfl)]; exact hs_set1 R hw hz h0 hx
  · rw [if_neg (show ¬ nI 2 = 0 from by decide), if_neg (show ¬ nI 2 = 1 from by decide), if_pos (show nI 2 = 2 from rfl)]; exact hs_set2 R hw hz h0 hx
  · rw [if_neg (show ¬ nI 3 = 0 from by decide), if_neg (show ¬ nI 3 = 1 from by decide), if_neg (show ¬ nI 3 = 2 from by decide), if_pos (show nI 3 = 3 from rfl)]; exact hs_set3 R hw hz h0 hx
theorem hs_shw (R : hs_Rel M N) {i w : Nat} (hi : i ≤ 3) (hw : w = 8 ∨ w = 16 ∨ w = 32) (x : Int32) : hs_S (if 0 ≤ x then (if x ≤ 24 then (if nI i = 0 then nb_o (f_X2_begin_43 M (nI w) x) fun M => some (1, M) else if nI i = 1 then nb_o (f_X2_begin_45 M (nI w) x) fun M => some (1, M) else if nI i = 2 then nb_o (f_X2_begin_47 M (nI w) x) fun M => some (1, M) else if nI i = 3 then nb_o (f_X2_begin_49 M (nI w) x) fun M => some (1, M) else none) else nb_p (f_X6_fail M 1) fun r M => some (r, M)) else nb_p (f_X6_fail M 3) fun r M => some (r, M)) (f_X7_sheet_36 N (nI i) (nI w) x) := by
  unfold f_X7_sheet_36 f_X7_sheet_51
  have hn : ¬ nI w ≤ 0 := nI_nle (by omega) (by omega)
  rw [if_neg hn, if_neg hn]
  by_cases h1 : 0 ≤ x
  · rw [if_pos h1, if_pos h1]
    by_cases h2 : x ≤ 24
    · rw [if_pos h2, if_pos h2]
      obtain ⟨z, hz, e⟩ := nI_of2 (x := x) (M := 24) (n := 24) (by decide) (Int32.not_lt.mpr h1) h2
      subst e
      exact hs_shc R hi (by omega) hz (by omega) (Or.inr rfl)
    · rw [if_neg h2, if_neg h2]; exact hs_e1 R
  · rw [if_neg h1, if_neg h1]; exact hs_e3 R
theorem s_sheet (R : hs_Rel M N) (p0 p1 p2 : Int32) : hs_S (f_X6_sheet M p0 p1 p2) (f_X7_sheet N p0 p1 p2) := by
  unfold f_X6_sheet f_X7_sheet f_X6_isSheet f_X7_isSheet f_X6_isWidth
  rcases hs_wi p0 (b := 3) (by decide) (B := 3) rfl with ⟨c1, d1, i, hi, rfl⟩ | ⟨c1, d1⟩
  · rw [c1, d1, if_neg hs_10, if_neg hs_10]
    by_cases q0 : p1 = 0
    · subst q0
      rw [if_pos rfl, if_neg hs_10, if_pos rfl, if_pos rfl]
      unfold f_X7_sheet_36 f_X7_sheet_51
      rw [if_pos (show (0 : Int32) ≤ 0 from by decide), if_pos (show (0 : Int32) ≤ 0 from by decide)]
      exact hs_shc R hi (w := 0) (z := 0) (Or.inl rfl) (by omega) (fun _ => rfl) (Or.inl rfl)
    rw [if_neg q0]
    by_cases q8 : p1 = 8
    · subst q8
      rw [if_pos rfl, if_neg hs_10, if_neg (show ¬ (8 : Int32) = 0 from by decide), if_neg (show ¬ (8 : Int32) = 0 from by decide), if_pos (rfl : (8 : Int32) = 8)]
      exact hs_shw R hi (w := 8) (by omega) p2
    rw [if_neg q8]
    by_cases q16 : p1 = 16
    · subst q16
      rw [if_pos rfl, if_neg hs_10, if_neg (show ¬ (16 : Int32) = 0 from by decide), if_neg (show ¬ (16 : Int32) = 0 from by decide), if_neg (show ¬ (16 : Int32) = 8 from by decide), if_pos (rfl : (16 : Int32) = 16)]
      exact hs_shw R hi (w := 16) (by omega) p2
    rw [if_neg q16]
    by_cases q32 : p1 = 32
    · subst q32
      rw [if_pos rfl, if_neg hs_10, if_neg (show ¬ (32 : Int32) = 0 from by decide), if_neg (show ¬ (32 : Int32) = 0 from by decide), if_neg (show ¬ (32 : Int32) = 8 from by decide), if_neg (show ¬ (32 : Int32) = 16 from by decide), if_pos (rfl : (32 : Int32) = 32)]
      exact hs_shw R hi (w := 32) (by omega) p2
    rw [if_neg q32, if_pos rfl, if_neg q0, if_neg q8, if_neg q16, if_neg q32]
    exact hs_e1 R
  · rw [c1, d1, if_pos rfl, if_pos rfl]; exact hs_e1 R
end HSR9
