/-! the ways: the loops -/
section HSZ3
set_option maxHeartbeats 400000
variable {M N : nb_M}
/-- the ways after the first so many places, and how many breakages may be -/
noncomputable def hs_wn (h : Nat → Nat → Int32) (i : Nat) : Nat → Nat
  | 0 => 0
  | a + 1 => hs_wn h i a + hs_lv h i a
noncomputable def hs_ww (h : Nat → Nat → Int32) (i : Nat) : Nat → Nat → Nat
  | 0 => fun j => if j = 0 then 1 else 0
  | a + 1 => if hs_lv h i a = 0 then hs_ww h i a else hs_wy (hs_ww h i a) (hs_rk h a (h 1 i)).toNatClampNeg
theorem hs_lv01 (h : Nat → Nat → Int32) (i b : Nat) : hs_lv h i b = 0 ∨ hs_lv h i b = 1 := by
  unfold hs_lv
  by_cases w : hs_le h i b
  · exact Or.inr (if_pos w)
  · exact Or.inl (if_neg w)
theorem hs_rkn (h : Nat → Nat → Int32) (a : Nat) (c : Int32) : ∃ k, k < 17 ∧ hs_rk h a c = nI k := by
  obtain ⟨h1, h2⟩ := hs_rk17 h a c
  obtain ⟨k, hk, e⟩ := nI_of2 (x := hs_rk h a c) (M := 16) (n := 16) (by decide) (Int32.not_lt.mpr h2) (Int32.not_lt.mp h1)
  exact ⟨k, by omega, e⟩
theorem hs_wb (h : Nat → Nat → Int32) (i : Nat) : ∀ a j, hs_ww h i a j ≤ 16 ^ hs_wn h i a
  | 0, j => by
    show (if j = 0 then 1 else 0) ≤ 1
    split <;> omega
  | a + 1, j => by
    have ih := hs_wb h i a
    show (if hs_lv h i a = 0 then hs_ww h i a else hs_wy (hs_ww h i a) (hs_rk h a (h 1 i)).toNatClampNeg) j ≤ 16 ^ (hs_wn h i a + hs_lv h i a)
    rcases hs_lv01 h i a with e | e
    · rw [e, if_pos rfl]; exact ih j
    · obtain ⟨k, hk, ek⟩ := hs_rkn h a (h 1 i)
      rw [e, if_neg (by decide), ek, nI_clamp (by omega), Nat.pow_succ]
      exact hs_wyb hk ih j
theorem hs_wt (h : Nat → Nat → Int32) (i : Nat) : ∀ a, hs_wn h i a ≤ a
  | 0 => Nat.le_refl _
  | a + 1 => by
    have := hs_wt h i a
    have := hs_lv01 h i a
    show hs_wn h i a + hs_lv h i a ≤ a + 1
    omega
end HSZ3
