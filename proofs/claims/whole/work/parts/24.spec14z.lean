section HSV
set_option maxHeartbeats 400000
variable {M N : nb_M}
theorem s_move (R : hs_Rel M N) (p0 p1 p2 p3 p4 : Int32) : hs_S (f_X6_move M p0 p1 p2 p3 p4) (f_X7_move N p0 p1 p2 p3 p4) := by
  have low : ∀ (a b c d : Int32), f_X7_notMoved N a b c d p4 = some (-1000000001) → hs_S (nb_p (f_X6_fail M 1) fun r M => some (r, M)) (f_X7_move N a b c d p4) := by
    intro a b c d h
    unfold f_X7_move
    rw [h]
    simp only [nb_o]
    rw [if_neg (by decide)]
    exact hs_e1 R
  unfold f_X6_move f_X6_isSheet
  rcases hs_wi p0 (b := 3) (by decide) (B := 3) rfl with ⟨c1, d1, i, hi, rfl⟩ | ⟨c1, d1⟩
  · rw [c1, if_neg hs_10]
    rcases hs_wi p2 (b := 3) (by decide) (B := 3) rfl with ⟨c2, d2, j, hj, rfl⟩ | ⟨c2, d2⟩
    · rw [c2, if_neg hs_10]
      have hi4 : i = 0 ∨ i = 1 ∨ i = 2 ∨ i = 3 := by omega
      have hj4 : j = 0 ∨ j = 1 ∨ j = 2 ∨ j = 3 := by omega
      rcases hi4 with rfl | rfl | rfl | rfl
      · rw [if_pos (show nI 0 = 0 from rfl)]
        rcases hj4 with rfl | rfl | rfl | rfl
        · rw [if_pos (show nI 0 = 0 from rfl)]; exact hs_mvh (hs_mvg R (s := 0) (t := 0) (by decide) (by decide) rfl rfl (hs_rSH0 R) (hs_rSH0 R) p1 p3 p4)
        · rw [if_neg (show ¬ nI 1 = 0 from by decide), if_pos (show nI 1 = 1 from rfl)]; exact hs_mvg R (s := 0) (t := 1) (by decide) (by decide) rfl rfl (hs_rSH0 R) (hs_rSH1 R) p1 p3 p4
        · rw [if_neg (show ¬ nI 2 = 0 from by decide), if_neg (show ¬ nI 2 = 1 from by decide), if_pos (show nI 2 = 2 from rfl)]; exact hs_mvg R (s := 0) (t := 2) (by decide) (by decide) rfl rfl (hs_rSH0 R) (hs_rSH2 R) p1 p3 p4
        · rw [if_neg (show ¬ nI 3 = 0 from by decide), if_neg (show ¬ nI 3 = 1 from by decide), if_neg (show ¬ nI 3 = 2 from by decide), if_pos (show nI 3 = 3 from rfl)]; exact hs_mvg R (s := 0) (t := 3) (by decide) (by decide) rfl rfl (hs_rSH0 R) (hs_rSH3 R) p1 p3 p4
      · rw [if_neg (show ¬ nI 1 = 0 from by decide), if_pos (show nI 1 = 1 from rfl)]
        rcases hj4 with rfl | rfl | rfl | rfl
        · rw [if_pos (show nI 0 = 0 from rfl)]; exact hs_mvg R (s := 1) (t := 0) (by decide) (by decide) rfl rfl (hs_rSH1 R) (hs_rSH0 R) p1 p3 p4
        · rw [if_neg (show ¬ nI 1 = 0 from by decide), if_pos (show nI 1 = 1 from rfl)]; exact hs_mvh (hs_mvg R (s := 1) (t := 1) (by decide) (by decide) rfl rfl (hs_rSH1 R) (hs_rSH1 R) p1 p3 p4)
        · rw [if_neg (show ¬ nI 2 = 0 from by decide), if_neg (show ¬ nI 2 = 1 from by decide), if_pos (show nI 2 = 2 from rfl)]; exact hs_mvg R (s := 1) (t := 2) (by decide) (by decide) rfl rfl (hs_rSH1 R) (hs_rSH2 R) p1 p3 p4
        · rw [if_neg (show ¬ nI 3 = 0 from by decide), if_neg (show ¬ nI 3 = 1 from by decide), if_neg (show ¬ nI 3 = 2 from by decide), if_pos (show nI 3 = 3 from rfl)]; exact hs_mvg R (s := 1) (t := 3) (by decide) (by decide) rfl rfl (hs_rSH1 R) (hs_rSH3 R) p1 p3 p4
      · rw [if_neg (show ¬ nI 2 = 0 from by decide), if_neg (show ¬ nI 2 = 1 from by decide), if_pos (show nI 2 = 2 from rfl)]
        rcases hj4 with rfl | rfl | rfl | rfl
        · rw [if_pos (show nI 0 = 0 from rfl)]; exact hs_mvg R (s := 2) (t := 0) (by decide) (by decide) rfl rfl (hs_rSH2 R) (hs_rSH0 R) p1 p3 p4
        · rw [if_neg (show ¬ nI 1 = 0 from by decide), if_pos (show nI 1 = 1 from rfl)]; exact hs_mvg R (s := 2) (t := 1) (by decide) (by decide) rfl rfl (hs_rSH2 R) (hs_rSH1 R) p1 p3 p4
        · rw [if_neg (show ¬ nI 2 = 0 from by decide), if_neg (show ¬ nI 2 = 1 from by decide), if_pos (show nI 2 = 2 from rfl)]; exact hs_mvh (hs_mvg R (s := 2) (t := 2) (by decide) (by decide) rfl rfl (hs_rSH2 R) (hs_rSH2 R) p1 p3 p4)
        · rw [if_neg (show ¬ nI 3 = 0 from by decide), if_neg (show ¬ nI 3 = 1 from by decide), if_neg (show ¬ nI 3 = 2 from by decide), if_pos (show nI 3 = 3 from rfl)]; exact hs_mvg R (s := 2) (t := 3) (by decide) (by decide) rfl rfl (hs_rSH2 R) (hs_rSH3 R) p1 p3 p4
      · rw [if_neg (show ¬ nI 3 = 0 from by decide), if_neg (show ¬ nI 3 = 1 from by decide), if_neg (show ¬ nI 3 = 2 from by decide), if_pos (show nI 3 = 3 from rfl)]
        rcases hj4 with rfl | rfl | rfl | rfl
        · rw [if_pos (show nI 0 = 0 from rfl)]; exact hs_mvg R (s := 3) (t := 0) (by decide) (by decide) rfl rfl (hs_rSH3 R) (hs_rSH0 R) p1 p3 p4
        · rw [if_neg (show ¬ nI 1 = 0 from by decide), if_pos (show nI 1 = 1 from rfl)]; exact hs_mvg R (s := 3) (t := 1) (by decide) (by decide) rfl rfl (hs_rSH3 R) (hs_rSH1 R) p1 p3 p4
        · rw [if_neg (show ¬ nI 2 = 0 from by decide), if_neg (show ¬ nI 2 = 1 from by decide), if_pos (show nI 2 = 2 from rfl)]; exact hs_mvg R (s := 3) (t := 2) (by decide) (by decide) rfl rfl (hs_rSH3 R) (hs_rSH2 R) p1 p3 p4
        · rw [if_neg (show ¬ nI 3 = 0 from by decide), if_neg (show ¬ nI 3 = 1 from by decide), if_neg (show ¬ nI 3 = 2 from by decide), if_pos (show nI 3 = 3 from rfl)]; exact hs_mvh (hs_mvg R (s := 3) (t := 3) (by decide) (by decide) rfl rfl (hs_rSH3 R) (hs_rSH3 R) p1 p3 p4)
    · rw [c2, if_pos rfl]
      refine low _ _ _ _ ?_
      unfold f_X7_notMoved f_X7_isSheet
      rw [d1, d2, if_neg hs_10, if_pos rfl]
  · rw [c1, if_pos rfl]
    refine low _ _ _ _ ?_
    unfold f_X7_notMoved f_X7_isSheet
    rw [d1, if_pos rfl]
end HSV
