/-! the two memories agree -/
def hs_SH (o nu : Nat → Int32) (i : Nat) (N : nb_M) : Prop := ∃ w n, (w = 0 ∨ w = 8 ∨ w = 16 ∨ w = 32) ∧ n ≤ 24 ∧ (w = 0 → n = 0) ∧ o 1 = nI w ∧ o 2 = nI n ∧ N.1 4 i = nI w ∧ N.1 5 i = nI n ∧ ∀ k, k < 24 → N.1 6 (24 * i + k) = nu k
def hs_TR (M N : nb_M) : Prop := ∃ t, t ≤ 30 ∧ M.1 40 1 = nI t ∧ N.1 0 19 = nI t ∧ ∀ i, i < t → N.1 12 i = M.1 41 i
def hs_Rel (M N : nb_M) : Prop := hs_HH (hs_ho 1 M) (N.1 1) ∧ hs_HI (hs_ho 1 M) ∧ N.1 0 2 = M.1 0 7 ∧ (M.1 0 7 = 0 ∨ (hs_HH (hs_ho 18 M) (N.1 2) ∧ hs_HI (hs_ho 18 M))) ∧ (∀ k, 1 ≤ k → k ≤ 6 → N.1 3 k = M.1 51 k) ∧ hs_TR M N ∧
  hs_SH (M.1 43) (M.1 44) 0 N ∧ hs_SH (M.1 45) (M.1 46) 1 N ∧ hs_SH (M.1 47) (M.1 48) 2 N ∧ hs_SH (M.1 49) (M.1 50) 3 N
def hs_S (x y : Option (Int32 × nb_M)) : Prop := ∃ v M' N', x = some (v, M') ∧ y = some (v, N') ∧ hs_Rel M' N'
def hs_SL (x y : Option (Int64 × nb_M)) : Prop := ∃ v M' N', x = some (v, M') ∧ y = some (v, N') ∧ hs_Rel M' N'
/-- all but the house that stands now -/
def hs_Oc (M M' : nb_M) : Prop := ∀ k, (k = 0 ∨ 18 ≤ k) → M'.1 k = M.1 k
def hs_Od (N N' : nb_M) : Prop := ∀ k, k ≠ 1 → k ≠ 9 → k ≠ 10 → N'.1 k = N.1 k
theorem hs_Oc.rf (M : nb_M) : hs_Oc M M := fun _ _ => rfl
theorem hs_Od.rf (M : nb_M) : hs_Od M M := fun _ _ _ _ => rfl
theorem hs_Oc.tr {A B C : nb_M} (h : hs_Oc A B) (g : hs_Oc B C) : hs_Oc A C := fun k a => (g k a).trans (h k a)
theorem hs_Od.tr {A B C : nb_M} (h : hs_Od A B) (g : hs_Od B C) : hs_Od A C := fun k a b c => (g k a b c).trans (h k a b c)
theorem hs_Oc.i {M : nb_M} {c j : Nat} {v : Int32} (hc : 1 ≤ c) (hc2 : c ≤ 17) : hs_Oc M (nb_i M c j v) := fun k h => by simp only [nb_i, nb_r]; rw [if_neg (by omega)]
theorem hs_Od.i {M : nb_M} {j : Nat} {v : Int32} : hs_Od M (nb_i M 1 j v) := fun k h1 h2 h3 => by simp only [nb_i, nb_r]; rw [if_neg h1]
theorem hs_Sc.oc {M M' : nb_M} (h : hs_Sc M M') : hs_Oc M M' := fun k a => h.1 k (by omega) (by omega)
theorem hs_Sd.od {M M' : nb_M} (h : hs_Sd M M') : hs_Od M M' := fun k _ b c => h.1 k b c
theorem hs_Oc.hk {M M' : nb_M} (h : hs_Oc M M') : hs_ho 18 M' = hs_ho 18 M := by
  funext k
  by_cases hx : k = 13 ∨ k = 16 ∨ 16 < k
  · simp [hs_ho, hx]
  · simp only [hs_ho, if_neg hx]
    exact h (18 + k) (by omega)
theorem hs_SH.keep {o nu o' nu' : Nat → Int32} {i : Nat} {N N' : nb_M} (h : hs_SH o nu i N) (h1 : o' = o) (h2 : nu' = nu) (h4 : N'.1 4 = N.1 4) (h5 : N'.1 5 = N.1 5) (h6 : N'.1 6 = N.1 6) : hs_SH o' nu' i N' := by
  subst h1; subst h2
  unfold hs_SH
  rw [h4, h5, h6]
  exact h
theorem hs_Rel.house {M N M' N' : nb_M} (R : hs_Rel M N) (hc : hs_Oc M M') (hd : hs_Od N N') (h1 : hs_HH (hs_ho 1 M') (N'.1 1)) (h2 : hs_HI (hs_ho 1 M')) : hs_Rel M' N' := by
  obtain ⟨_, _, a3, a4, a5, a6, s0, s1, s2, s3⟩ := R
  have c0 : M'.1 0 = M.1 0 := hc 0 (by omega)
  have d0 : N'.1 0 = N.1 0 := hd 0 (by omega) (by omega) (by omega)
  have d2 : N'.1 2 = N.1 2 := hd 2 (by omega) (by omega) (by omega)
  have d3 : N'.1 3 = N.1 3 := hd 3 (by omega) (by omega) (by omega)
  have d4 : N'.1 4 = N.1 4 := hd 4 (by omega) (by omega) (by omega)
  have d5 : N'.1 5 = N.1 5 := hd 5 (by omega) (by omega) (by omega)
  have d6 : N'.1 6 = N.1 6 := hd 6 (by omega) (by omega) (by omega)
  have d12 : N'.1 12 = N.1 12 := hd 12 (by omega) (by omega) (by omega)
  refine ⟨h1, h2, by rw [c0, d0]; exact a3, by rw [c0, hc.hk, d2]; exact a4, by rw [d3, hc 51 (by omega)]; exact a5, ?_, s0.keep (hc 43 (by omega)) (hc 44 (by omega)) d4 d5 d6, s1.keep (hc 45 (by omega)) (hc 46 (by omega)) d4 d5 d6, s2.keep (hc 47 (by omega)) (hc 48 (by omega)) d4 d5 d6, s3.keep (hc 49 (by omega)) (hc 50 (by omega)) d4 d5 d6⟩
  unfold hs_TR
  rw [hc 40 (by omega), hc 41 (by omega), d0, d12]
  exact a6
theorem hs_Rel.sc {M N M' N' : nb_M} (R : hs_Rel M N) (hc : hs_Sc M M') (hd : hs_Sd N N') : hs_Rel M' N' := R.house hc.oc hd.od (by rw [hc.ho, hd.1 1 (by omega) (by omega)]; exact R.1) (by rw [hc.ho]; exact R.2.1)
theorem hs_hoO {b c j : Nat} {M : nb_M} {v : Int32} (hc : c < b ∨ b + 16 < c) : hs_ho b (nb_i M c j v) = hs_ho b M := by
  funext k
  by_cases hx : k = 13 ∨ k = 16 ∨ 16 < k
  · simp [hs_ho, hx]
  · simp only [hs_ho, if_neg hx, nb_i, nb_r]
    rw [if_neg (by omega)]
/-! errors -/
theorem hs_err {M N : nb_M} (R : hs_Rel M N) {k : Nat} (h1 : 1 ≤ k) (h6 : k ≤ 6) {e : Int32} (he : -1000000000 - e = nI k) (he2 : -1000000000 - nI k = e) : hs_S (f_X6_fail M (nI k)) (f_X7_error N e) := by
  unfold f_X6_fail f_X7_error
  simp only [nb_n]
  rw [he, if_neg (nI_in (show k < 7 by omega) (by decide)), if_neg (nI_in (show k < 7 by omega) (by decide)), nI_clamp (by omega), he2]
  refine ⟨_, _, _, rfl, rfl, ?_⟩
  obtain ⟨a1, a2, a3, a4, a5, a6, s0, s1, s2, s3⟩ := R
  refine ⟨by rw [hs_hoO (by omega)]; exact a1, by rw [hs_hoO (by omega)]; exact a2, a3, by rw [hs_hoO (by omega)]; exact a4, fun i hi hi6 => ?_, a6, s0, s1, s2, s3⟩
  show upd (N.1 3) k (N.1 3 k + 1) i = upd (M.1 51) k (M.1 51 k + 1) i
  by_cases e : i = k
  · subst e; rw [hs_upd_s, hs_upd_s, a5 i hi hi6]
  · rw [hs_upd_n e, hs_upd_n e, a5 i hi hi6]
theorem hs_eta {x y : Option (Int32 × nb_M)} (h : hs_S x y) : hs_S (nb_p x fun r M => some (r, M)) (nb_p y fun r M => some (r, M)) := by
  obtain ⟨v, M', N', h1, h2, h3⟩ := h
  subst h1; subst h2
  exact ⟨v, M', N', rfl, rfl, h3⟩
section HSE
variable {M N : nb_M}
theorem hs_e1 (R : hs_Rel M N) : hs_S (nb_p (f_X6_fail M 1) fun r M => some (r, M)) (nb_p (f_X7_error N (-1000000001)) fun r M => some (r, M)) := hs_eta (hs_err R (k := 1) (by decide) (by decide) (by decide) (by decide))
theorem hs_e2 (R : hs_Rel M N) : hs_S (nb_p (f_X6_fail M 2) fun r M => some (r, M)) (nb_p (f_X7_error N (-1000000002)) fun r M => some (r, M)) := hs_eta (hs_err R (k := 2) (by decide) (by decide) (by decide) (by decide))
theorem hs_e3 (R : hs_Rel M N) : hs_S (nb_p (f_X6_fail M 3) fun r M => some (r, M)) (nb_p (f_X7_error N (-1000000003)) fun r M => some (r, M)) := hs_eta (hs_err R (k := 3) (by decide) (by decide) (by decide) (by decide))
theorem hs_e4 (R : hs_Rel M N) : hs_S (nb_p (f_X6_fail M 4) fun r M => some (r, M)) (nb_p (f_X7_error N (-1000000004)) fun r M => some (r, M)) := hs_eta (hs_err R (k := 4) (by decide) (by decide) (by decide) (by decide))
theorem hs_e5 (R : hs_Rel M N) : hs_S (nb_p (f_X6_fail M 5) fun r M => some (r, M)) (nb_p (f_X7_error N (-1000000005)) fun r M => some (r, M)) := hs_eta (hs_err R (k := 5) (by decide) (by decide) (by decide) (by decide))
theorem hs_e6 (R : hs_Rel M N) : hs_S (nb_p (f_X6_fail M 6) fun r M => some (r, M)) (nb_p (f_X7_error N (-1000000006)) fun r M => some (r, M)) := hs_eta (hs_err R (k := 6) (by decide) (by decide) (by decide) (by decide))
/-- who is one of the people, what is one of the pieces -/
theorem hs_per (R : hs_Rel M N) (x : Int32) : (f_X0_isPerson M x = 1 ∧ f_X7_isPerson N x = 1 ∧ ∃ i, i < 5 ∧ nI i < M.1 1 2 ∧ x = nI i) ∨ (f_X0_isPerson M x = 0 ∧ f_X7_isPerson N x = 0) := by
  obtain ⟨q, hq, e⟩ := hs_np R.2.1
  have e' : M.1 1 2 = nI q := e
  have er : N.1 1 3 = nI q := (hs_r3 R.1).trans e
  rcases hs_isl x (n := q) (by omega) (c := f_X0_isPerson M x) (by rw [← e']; rfl) with ⟨c1, k, hk, ex⟩ | ⟨c1, c2⟩
  · rcases hs_isr x (n := q) (by omega) with ⟨d1, _⟩ | ⟨d1, d2⟩
    · exact Or.inl ⟨c1, by unfold f_X7_isPerson; rw [hs_c3, er]; exact d1, k, by omega, by rw [e']; exact nI_lt hk (by omega), ex⟩
    · subst ex
      rcases d2 with d2 | d2
      · exact absurd d2 (nI_pos (by omega))
      · exact absurd d2 (nI_ge hk (by omega))
  · rcases hs_isr x (n := q) (by omega) with ⟨d1, k, hk, ex⟩ | ⟨d1, d2⟩
    · subst ex
      rcases c2 with d2 | d2
      · exact absurd d2 (nI_pos (by omega))
      · exact absurd d2 (nI_ge hk (by omega))
    · exact Or.inr ⟨c1, by unfold f_X7_isPerson; rw [hs_c3, er]; exact d1⟩
theorem hs_pie (R : hs_Rel M N) (x : Int32) : (f_X0_isPiece M x = 1 ∧ f_X7_isPiece N x = 1 ∧ ∃ i, i < 9 ∧ nI i < M.1 1 6 ∧ x = nI i) ∨ (f_X0_isPiece M x = 0 ∧ f_X7_isPiece N x = 0) := by
  obtain ⟨q, hq, e⟩ := hs_nq R.2.1
  have e' : M.1 1 6 = nI q := e
  have er : N.1 1 2 = nI q := (hs_r2 R.1).trans e
  rcases hs_isl x (n := q) (by omega) (c := f_X0_isPiece M x) (by rw [← e']; rfl) with ⟨c1, k, hk, ex⟩ | ⟨c1, c2⟩
  · rcases hs_isr x (n := q) (by omega) with ⟨d1, _⟩ | ⟨d1, d2⟩
    · exact Or.inl ⟨c1, by unfold f_X7_isPiece; rw [hs_c2, er]; exact d1, k, by omega, by rw [e']; exact nI_lt hk (by omega), ex⟩
    · subst ex
      rcases d2 with d2 | d2
      · exact absurd d2 (nI_pos (by omega))
      · exact absurd d2 (nI_ge hk (by omega))
  · rcases hs_isr x (n := q) (by omega) with ⟨d1, k, hk, ex⟩ | ⟨d1, d2⟩
    · subst ex
      rcases c2 with d2 | d2
      · exact absurd d2 (nI_pos (by omega))
      · exact absurd d2 (nI_ge hk (by omega))
    · exact Or.inr ⟨c1, by unfold f_X7_isPiece; rw [hs_c2, er]; exact d1⟩
/-- a number held within 0 .. b -/
theorem hs_wi (x : Int32) {b : Nat} (hb : b < 1000) {B : Int32} (hB : B = nI b) : (f_X6_within x B = 1 ∧ f_X7_in x 0 B = 1 ∧ ∃ k, k ≤ b ∧ x = nI k) ∨ (f_X6_within x B = 0 ∧ f_X7_in x 0 B = 0) := by
  subst hB
  rw [hs_within, hs_in]
  by_cases h : x < 0 ∨ nI b < x
  · exact Or.inr ⟨if_pos h, if_pos h⟩
  · refine Or.inl ⟨if_neg h, if_neg h, ?_⟩
    obtain ⟨j, hj, e⟩ := nI_of (x := x) (fun q => h (Or.inl q))
    refine ⟨j, ?_, e⟩
    rcases Nat.lt_or_ge b j with w | w
    · exact absurd (Or.inr (by rw [e]; exact nI_lt w hj)) h
    · exact w
end HSE
theorem hs_updc {f : Nat → Int32} {n m : Nat} {x y : Int32} (h : n ≠ m) : upd (upd f n x) m y = upd (upd f m y) n x := by
  funext i
  simp only [upd]
  by_cases h1 : i = m
  · subst h1; simp [Ne.symm h]
  · simp [h1]
theorem hs_HI.people {h : Nat → Nat → Int32} (H : hs_HI h) {n : Nat} (hn : h 0 2 = nI n) (h5 : n < 5) : hs_HI (hs_u h 0 2 (nI (n + 1))) := by
  obtain ⟨a1, a2⟩ := H
  refine ⟨fun k j hv => ?_, fun a ha hx => ?_⟩
  · by_cases hk : k = 0
    · subst hk
      by_cases hj : j = 2
      · subst hj
        exact ⟨n + 1, by simp [hs_bd]; omega, by simp [hs_u, hs_upd_s]⟩
      · simpa [hs_u, hs_upd_n hj] using a1 0 j hv
    · simpa [hs_u, hk] using a1 k j hv
  · have e1 : hs_u h 0 2 (nI (n + 1)) 6 = h 6 := rfl
    have e2 : hs_u h 0 2 (nI (n + 1)) 0 6 = h 0 6 := rfl
    have e3 : hs_u h 0 2 (nI (n + 1)) 0 2 = nI (n + 1) := rfl
    rw [e2] at hx
    rw [e1, e3]
    have := a2 a ha hx
    rw [hn] at this
    exact Int32.lt_trans this (nI_lt (by omega) (by omega))
theorem hs_HI.pieces {h : Nat → Nat → Int32} (H : hs_HI h) {n : Nat} (hn : h 0 6 = nI n) (h9 : n < 9) (ho : h 6 n < h 0 2) : hs_HI (hs_u h 0 6 (nI (n + 1))) := by
  obtain ⟨a1, a2⟩ := H
  refine ⟨fun k j hv => ?_, fun a ha hx => ?_⟩
  · by_cases hk : k = 0
    · subst hk
      by_cases hj : j = 6
      · subst hj
        exact ⟨n + 1, by simp [hs_bd]; omega, by simp [hs_u, hs_upd_s]⟩
      · simpa [hs_u, hs_upd_n hj] using a1 0 j hv
    · simpa [hs_u, hk] using a1 k j hv
  · have e1 : hs_u h 0 6 (nI (n + 1)) 6 = h 6 := rfl
    have e2 : hs_u h 0 6 (nI (n + 1)) 0 6 = nI (n + 1) := rfl
    have e3 : hs_u h 0 6 (nI (n + 1)) 0 2 = h 0 2 := rfl
    rw [e2] at hx
    rw [e1, e3]
    by_cases e : a = n
    · subst e; exact ho
    · have hlt := (nI_ltI (by omega) (by omega)).mp hx
      exact a2 a ha (by rw [hn]; exact nI_lt (by omega) (by omega))
theorem hs_HI.owner {h : Nat → Nat → Int32} (H : hs_HI h) {a o : Nat} (ho : o < 5) (hl : nI o < h 0 2) : hs_HI (hs_u h 6 a (nI o)) := by
  obtain ⟨a1, a2⟩ := H
  refine ⟨fun k j hv => ?_, fun b hb hx => ?_⟩
  · by_cases hk : k = 6
    · subst hk
      by_cases hj : j = a
      · subst hj
        exact ⟨o, by simp [hs_bd]; omega, by simp [hs_u, hs_upd_s]⟩
      · simpa [hs_u, hs_upd_n hj] using a1 6 j hv
    · simpa [hs_u, hk] using a1 k j hv
  · have e2 : ∀ i, hs_u h 6 a (nI o) 0 i = h 0 i := fun _ => rfl
    rw [e2] at hx
    rw [e2]
    by_cases e : b = a
    · subst e
      show upd (h 6) b (nI o) b < _
      rw [hs_upd_s]; exact hl
    · show upd (h 6) a (nI o) b < _
      rw [hs_upd_n e]; exact a2 b hb hx
/-- one change of a place of the house, on both sides -/
theorem hs_ho1 {c k j : Nat} {M : nb_M} {v : Int32} (hc : c = 1 + k) (hk : k ≤ 16) (h13 : k ≠ 13) (h16 : k ≠ 16) : hs_ho 1 (nb_i M c j v) = hs_u (hs_ho 1 M) k j v := hs_ho_i hc hk h13 h16
