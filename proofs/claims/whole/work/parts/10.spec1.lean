/-! the house, as class and reference both keep it -/
def hs_ho (b : Nat) (M : nb_M) : Nat → Nat → Int32 := fun k => if k = 13 ∨ k = 16 ∨ 16 < k then (fun _ => 0) else M.1 (b + k)
def hs_IB (x : Int32) (b : Nat) : Prop := ∃ n, n ≤ b ∧ x = nI n
/-- a place of a row of the house -/
def hs_u (h : Nat → Nat → Int32) (k j : Nat) (v : Int32) : Nat → Nat → Int32 := fun i => if i = k then upd (h k) j v else h i
def hs_V (k j : Nat) : Prop := (k = 0 ∧ (j = 0 ∨ j = 1 ∨ j = 2 ∨ j = 6 ∨ j = 13 ∨ j = 15)) ∨ (1 ≤ k ∧ k ≤ 3 ∧ j < 5) ∨ (4 ≤ k ∧ k ≤ 7 ∧ j < 9) ∨ (k = 9 ∧ j < 60) ∨ (k = 10 ∧ j < 24)
/-- where the reference keeps it -/
def hs_ps (k j : Nat) : Nat := if k = 0 then (if j = 2 then 3 else if j = 6 then 2 else if j = 13 then 4 else if j = 15 then 5 else j) else if k ≤ 3 then 5 + 3 * j + k else if k ≤ 7 then 17 + 4 * j + k else if k = 9 then 57 + j else 117 + j
theorem hs_inj {k j k' j' : Nat} (h : hs_V k j) (h' : hs_V k' j') (e : hs_ps k j = hs_ps k' j') : k = k' ∧ j = j' := by
  unfold hs_V at h h'
  unfold hs_ps at e
  repeat' split at e
  all_goals omega
theorem hs_ps_lt {k j : Nat} (h : hs_V k j) : hs_ps k j < 141 := by
  unfold hs_V at h
  unfold hs_ps
  repeat' split
  all_goals omega
theorem hs_upd_s {f : Nat → Int32} {k : Nat} {x : Int32} : upd f k x k = x := by simp [upd]
theorem hs_upd_n {f : Nat → Int32} {k j : Nat} {x : Int32} (h : j ≠ k) : upd f k x j = f j := by simp [upd, h]
def hs_ops : List Nat := [37, 38, 42, 43, 45, 47, 60, 61, 62, 124]
/-- a step of a text, as the class and as the reference has it -/
def hs_CE (x a w : Int32) : Prop := (∃ v, v < 10000 ∧ x = nI v ∧ a = 1 ∧ w = nI v) ∨ (∃ n, n < 3 ∧ x = nI (10000 + n) ∧ a = 2 ∧ w = nI n) ∨ (x = nI 20033 ∧ a = 3) ∨ (∃ c, c ∈ hs_ops ∧ x = nI (20000 + c) ∧ a = nI c)
/-- how many numbers lie on the pile ahead of a step and behind it -/
def hs_DS (x : Int32) (d d' : Nat) : Prop := (x < 20000 ∧ d' = d + 1) ∨ (x = nI 20033 ∧ 1 ≤ d ∧ d' = d) ∨ (¬ x < 20000 ∧ ¬ x = nI 20033 ∧ 2 ≤ d ∧ d' + 1 = d)
def hs_HT (n : Int32) (s r : Nat → Int32) (q : Nat) : Prop := ∃ k, k ≤ 60 ∧ n = nI k ∧ r q = nI k ∧ (∀ j, j < k → hs_CE (s j) (r (q + 1 + j)) (r (q + 61 + j))) ∧ ∃ D : Nat → Nat, D 0 = 0 ∧ ∀ j, j < k → hs_DS (s j) (D j) (D (j + 1))
def hs_HH (h : Nat → Nat → Int32) (r : Nat → Int32) : Prop := (∀ k j, hs_V k j → r (hs_ps k j) = h k j) ∧ hs_HT (h 11 1) (h 12) r 141 ∧ hs_HT (h 14 1) (h 15) r 262
def hs_bd (k j : Nat) : Nat := if k = 0 then (if j = 0 then 9999 else if j = 2 then 5 else if j = 6 then 9 else if j = 13 then 60 else 24) else if k ≤ 2 then 9 else if k = 3 then 9999 else if k = 4 then 6 else if k = 5 then 9 else if k = 6 then 4 else 2
def hs_VB (k j : Nat) : Prop := hs_V k j ∧ ¬ (k = 0 ∧ j = 1) ∧ k ≤ 7
def hs_HI (h : Nat → Nat → Int32) : Prop := (∀ k j, hs_VB k j → hs_IB (h k j) (hs_bd k j)) ∧ ∀ a, a < 9 → nI a < h 0 6 → h 6 a < h 0 2
theorem hs_HT.keep {n : Int32} {s r r' : Nat → Int32} {q : Nat} (h : hs_HT n s r q) (hr : ∀ j, j ≤ 120 → r' (q + j) = r (q + j)) : hs_HT n s r' q := by
  obtain ⟨k, h1, h2, h3, h4, h5⟩ := h
  refine ⟨k, h1, h2, ?_, fun j hj => ?_, h5⟩
  · have := hr 0 (by omega)
    rw [Nat.add_zero] at this
    rw [this, h3]
  · have e1 := hr (1 + j) (by omega)
    have e2 := hr (61 + j) (by omega)
    rw [← Nat.add_assoc] at e1 e2
    rw [e1, e2]
    exact h4 j hj
theorem hs_HH.set {h : Nat → Nat → Int32} {r : Nat → Int32} (H : hs_HH h r) {k j n : Nat} (hv : hs_V k j) (hn : hs_ps k j = n) (v : Int32) : hs_HH (hs_u h k j v) (upd r n v) := by
  subst hn
  obtain ⟨h1, h2, h3⟩ := H
  have hlt := hs_ps_lt hv
  have hk : k ≠ 11 ∧ k ≠ 12 ∧ k ≠ 14 ∧ k ≠ 15 := by unfold hs_V at hv; omega
  have keep : ∀ i, i ≠ k → hs_u h k j v i = h i := fun i hi => by simp [hs_u, hi]
  refine ⟨fun k' j' hv' => ?_, ?_, ?_⟩
  · by_cases e : hs_ps k' j' = hs_ps k j
    · obtain ⟨rfl, rfl⟩ := hs_inj hv' hv e
      simp [hs_u, hs_upd_s]
    · rw [hs_upd_n e, h1 k' j' hv']
      by_cases hkk : k' = k
      · subst hkk
        have : j' ≠ j := fun q => e (by rw [q])
        simp [hs_u, hs_upd_n this]
      · rw [keep k' hkk]
  · rw [keep 11 hk.1.symm, keep 12 hk.2.1.symm]
    exact h2.keep (fun i _ => hs_upd_n (by omega))
  · rw [keep 14 hk.2.2.1.symm, keep 15 hk.2.2.2.symm]
    exact h3.keep (fun i _ => hs_upd_n (by omega))
theorem hs_HI.set {h : Nat → Nat → Int32} (H : hs_HI h) {k j : Nat} (v : Int32) (hb : hs_VB k j → hs_IB v (hs_bd k j)) (h1 : k ≠ 6) (h2 : ¬ (k = 0 ∧ (j = 2 ∨ j = 6))) : hs_HI (hs_u h k j v) := by
  obtain ⟨a1, a2⟩ := H
  refine ⟨fun k' j' hv => ?_, fun a ha => ?_⟩
  · by_cases hk : k' = k
    · subst hk
      by_cases hj : j' = j
      · subst hj
        simpa [hs_u, hs_upd_s] using hb hv
      · simpa [hs_u, hs_upd_n hj] using a1 k' j' hv
    · simpa [hs_u, hk] using a1 k' j' hv
  · have e6 : hs_u h k j v 6 = h 6 := by simp [hs_u, Ne.symm h1]
    have e0 : ∀ i, (i = 2 ∨ i = 6) → hs_u h k j v 0 i = h 0 i := by
      intro i hi
      by_cases hk : k = 0
      · subst hk
        have : i ≠ j := fun q => h2 ⟨rfl, by rw [← q]; exact hi⟩
        simp [hs_u, hs_upd_n this]
      · simp [hs_u, Ne.symm hk]
    rw [e6, e0 6 (Or.inr rfl), e0 2 (Or.inl rfl)]
    exact a2 a ha
theorem hs_ho_i {b c k j : Nat} {M : nb_M} {v : Int32} (hc : c = b + k) (hk : k ≤ 16) (h13 : k ≠ 13) (h16 : k ≠ 16) : hs_ho b (nb_i M c j v) = hs_u (hs_ho b M) k j v := by
  subst hc
  funext i
  by_cases hi : i = k
  · subst hi
    have : ¬ (i = 13 ∨ i = 16 ∨ 16 < i) := by omega
    simp [hs_ho, hs_u, nb_i, nb_r, this]
  · have hne : b + i ≠ b + k := by omega
    by_cases hx : i = 13 ∨ i = 16 ∨ 16 < i
    · simp [hs_ho, hs_u, hi, hx]
    · simp only [hs_ho, hs_u, if_neg hi, if_neg hx, nb_i, nb_r, if_neg hne]
/-- cells that no one's answer rests on -/
def hs_Sc (M M' : nb_M) : Prop := (∀ k, k ≠ 14 → k ≠ 17 → M'.1 k = M.1 k) ∧ M'.2 = M.2
def hs_Sd (N N' : nb_M) : Prop := (∀ k, k ≠ 9 → k ≠ 10 → N'.1 k = N.1 k) ∧ N'.2 = N.2
theorem hs_Sc.rf (M : nb_M) : hs_Sc M M := ⟨fun _ _ _ => rfl, rfl⟩
theorem hs_Sd.rf (M : nb_M) : hs_Sd M M := ⟨fun _ _ _ => rfl, rfl⟩
theorem hs_Sc.tr {A B C : nb_M} (h : hs_Sc A B) (g : hs_Sc B C) : hs_Sc A C := ⟨fun k a b => (g.1 k a b).trans (h.1 k a b), g.2.trans h.2⟩
theorem hs_Sd.tr {A B C : nb_M} (h : hs_Sd A B) (g : hs_Sd B C) : hs_Sd A C := ⟨fun k a b => (g.1 k a b).trans (h.1 k a b), g.2.trans h.2⟩
theorem hs_Sc.ho {M M' : nb_M} (h : hs_Sc M M') : hs_ho 1 M' = hs_ho 1 M := by
  funext k
  by_cases hx : k = 13 ∨ k = 16 ∨ 16 < k
  · simp [hs_ho, hx]
  · simp only [hs_ho, if_neg hx]
    exact h.1 (1 + k) (by omega) (by omega)
theorem hs_Sc.hk {M M' : nb_M} (h : hs_Sc M M') : hs_ho 18 M' = hs_ho 18 M := by
  funext k
  by_cases hx : k = 13 ∨ k = 16 ∨ 16 < k
  · simp [hs_ho, hx]
  · simp only [hs_ho, if_neg hx]
    exact h.1 (18 + k) (by omega) (by omega)
theorem hs_Sc.i {M : nb_M} {c j : Nat} {v : Int32} (hc : c = 14 ∨ c = 17) : hs_Sc M (nb_i M c j v) := ⟨fun k h1 h2 => by simp only [nb_i, nb_r]; rw [if_neg (by omega)], rfl⟩
theorem hs_Sd.i {M : nb_M} {c j : Nat} {v : Int32} (hc : c = 9 ∨ c = 10) : hs_Sd M (nb_i M c j v) := ⟨fun k h1 h2 => by simp only [nb_i, nb_r]; rw [if_neg (by omega)], rfl⟩
/-! small numbers -/
theorem hs_c0 : (0 : Int32).toNatClampNeg = 0 := by decide
theorem hs_c1 : (1 : Int32).toNatClampNeg = 1 := by decide
theorem hs_c2 : (2 : Int32).toNatClampNeg = 2 := by decide
theorem hs_c3 : (3 : Int32).toNatClampNeg = 3 := by decide
theorem hs_c4 : (4 : Int32).toNatClampNeg = 4 := by decide
theorem hs_c5 : (5 : Int32).toNatClampNeg = 5 := by decide
theorem hs_l0 : (0 : Int32) = nI 0 := rfl
theorem hs_l1 : (1 : Int32) = nI 1 := rfl
theorem hs_add1 (n : Nat) : nI n + 1 = nI (n + 1) := nI_1 n
/-! the reference's rows by numbers -/
theorem hs_of {N : nb_M} {a j : Nat} (ha : 21 + 4 * a + j < 383) : f_X7_of N (nI a) (nI j) = some (N.1 1 (21 + 4 * a + j)) := by
  have e : ((21 : Int32) + ((4 : Int32) * nI a)) + nI j = nI (21 + 4 * a + j) := by
    rw [show (21 : Int32) = nI 21 from rfl, show (4 : Int32) = nI 4 from rfl, pk_mul, nI_add, nI_add]
  unfold f_X7_of
  rw [e, if_neg (nI_in ha (by decide)), nI_clamp (by omega)]
theorem hs_lets {N : nb_M} {a j : Nat} {v : Int32} (ha : 21 + 4 * a + j < 383) : f_X7_lets N (nI a) (nI j) v = some (nb_i N 1 (21 + 4 * a + j) v) := by
  have e : ((21 : Int32) + ((4 : Int32) * nI a)) + nI j = nI (21 + 4 * a + j) := by
    rw [show (21 : Int32) = nI 21 from rfl, show (4 : Int32) = nI 4 from rfl, pk_mul, nI_add, nI_add]
  unfold f_X7_lets nb_n
  rw [e, if_neg (nI_in ha (by decide)), nI_clamp (by omega)]
theorem hs_about {N : nb_M} {i j : Nat} (ha : 6 + 3 * i + j < 383) : f_X7_about N (nI i) (nI j) = some (N.1 1 (6 + 3 * i + j)) := by
  have e : ((6 : Int32) + ((3 : Int32) * nI i)) + nI j = nI (6 + 3 * i + j) := by
    rw [show (6 : Int32) = nI 6 from rfl, show (3 : Int32) = nI 3 from rfl, pk_mul, nI_add, nI_add]
  unfold f_X7_about
  rw [e, if_neg (nI_in ha (by decide)), nI_clamp (by omega)]
theorem hs_becomes {N : nb_M} {n : Nat} {v : Int32} (hn : n < 383) : f_X7_becomes N (nI n) v = some (N.1 1 n, nb_i N 1 n v) := by
  unfold f_X7_becomes nb_n
  rw [if_neg (nI_in hn (by decide)), nI_clamp (by omega)]
section HSH
variable {h : Nat → Nat → Int32} {N : nb_M}
theorem hs_HH.at {r : Nat → Int32} (H : hs_HH h r) {k j n : Nat} (hv : hs_V k j) (hn : hs_ps k j = n) : r n = h k j := by rw [← hn]; exact H.1 k j hv
theorem hs_of0 (H : hs_HH h (N.1 1)) {a : Nat} (ha : a < 9) : f_X7_of N (nI a) 0 = some (h 4 a) := (hs_of (j := 0) (by omega)).trans (congrArg some (H.at (by unfold hs_V; omega) (by simp [hs_ps]; omega)))
theorem hs_of1 (H : hs_HH h (N.1 1)) {a : Nat} (ha : a < 9) : f_X7_of N (nI a) 1 = some (h 5 a) := (hs_of (j := 1) (by omega)).trans (congrArg some (H.at (by unfold hs_V; omega) (by simp [hs_ps]; omega)))
theorem hs_of2 (H : hs_HH h (N.1 1)) {a : Nat} (ha : a < 9) : f_X7_of N (nI a) 2 = some (h 6 a) := (hs_of (j := 2) (by omega)).trans (congrArg some (H.at (by unfold hs_V; omega) (by simp [hs_ps]; omega)))
theorem hs_of3 (H : hs_HH h (N.1 1)) {a : Nat} (ha : a < 9) : f_X7_of N (nI a) 3 = some (h 7 a) := (hs_of (j := 3) (by omega)).trans (congrArg some (H.at (by unfold hs_V; omega) (by simp [hs_ps]; omega)))
theorem hs_ab0 (H : hs_HH h (N.1 1)) {i : Nat} (hi : i < 5) : f_X7_about N (nI i) 0 = some (h 1 i) := (hs_about (j := 0) (by omega)).trans (congrArg some (H.at (by unfold hs_V; omega) (by simp [hs_ps]; omega)))
theorem hs_ab1 (H : hs_HH h (N.1 1)) {i : Nat} (hi : i < 5) : f_X7_about N (nI i) 1 = some (h 2 i) := (hs_about (j := 1) (by omega)).trans (congrArg some (H.at (by unfold hs_V; omega) (by simp [hs_ps]; omega)))
theorem hs_ab2 (H : hs_HH h (N.1 1)) {i : Nat} (hi : i < 5) : f_X7_about N (nI i) 2 = some (h 3 i) := (hs_about (j := 2) (by omega)).trans (congrArg some (H.at (by unfold hs_V; omega) (by simp [hs_ps]; omega)))
theorem hs_r0 (H : hs_HH h (N.1 1)) : N.1 1 0 = h 0 0 := H.at (by unfold hs_V; omega) rfl
theorem hs_r1 (H : hs_HH h (N.1 1)) : N.1 1 1 = h 0 1 := H.at (by unfold hs_V; omega) rfl
theorem hs_r2 (H : hs_HH h (N.1 1)) : N.1 1 2 = h 0 6 := H.at (by unfold hs_V; omega) rfl
theorem hs_r3 (H : hs_HH h (N.1 1)) : N.1 1 3 = h 0 2 := H.at (by unfold hs_V; omega) rfl
theorem hs_r4 (H : hs_HH h (N.1 1)) : N.1 1 4 = h 0 13 := H.at (by unfold hs_V; omega) rfl
theorem hs_r5 (H : hs_HH h (N.1 1)) : N.1 1 5 = h 0 15 := H.at (by unfold hs_V; omega) rfl
end HSH
