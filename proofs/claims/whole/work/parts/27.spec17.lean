/-! the ways of the breakages, on both sides -/
set_option maxHeartbeats 400000
section HSY
theorem hs_Rel.l {M N M' N' : nb_M} (R : hs_Rel M N) (h1 : M'.1 = M.1) (h2 : N'.1 = N.1) : hs_Rel M' N' := by
  obtain ⟨a, b⟩ := M
  obtain ⟨c, d⟩ := N
  obtain ⟨a', b'⟩ := M'
  obtain ⟨c', d'⟩ := N'
  have e1 : a' = a := h1
  have e2 : c' = c := h2
  subst e1; subst e2
  exact R
theorem hs_lne {K : nb_M} {c i j : Nat} {v : Int64} (h : i ≠ j) : (nb_l K c j v).2 c i = K.2 c i := by simp [nb_l, vp_updL, h]
theorem hs_leq {K : nb_M} {c j : Nat} {v : Int64} : (nb_l K c j v).2 c j = v := by simp [nb_l, vp_updL]
theorem hs_lno {K : nb_M} {c c' i j : Nat} {v : Int64} (h : c' ≠ c) : (nb_l K c j v).2 c' i = K.2 c' i := by simp [nb_l, h]
theorem hs_lM {K : nb_M} {c j : Nat} {v : Int64} : (nb_l K c j v).1 = K.1 := rfl
theorem hs_16a : ∀ k, k < 17 → ((16 : Int32) - nI k).toInt64 = nL (16 - k) := by decide
theorem hs_16b : ∀ k, k < 17 → (nI k).toInt64 = nL k := by decide
theorem hs_16c {k : Nat} (h : k < 17) : (16 : Int64) - (nI k).toInt64 = nL (16 - k) := by
  rw [hs_16b k h, show (16 : Int64) = nL 16 from rfl, nL_sub (by omega)]
def hs_wy (V : Nat → Nat) (k : Nat) : Nat → Nat
  | 0 => V 0 * (16 - k)
  | j + 1 => V (j + 1) * (16 - k) + V j * k
theorem hs_wyb {V : Nat → Nat} {k B : Nat} (hk : k < 17) (h : ∀ j, V j ≤ B) : ∀ j, hs_wy V k j ≤ B * 16
  | 0 => Nat.mul_le_mul (h 0) (by omega)
  | j + 1 => by
    have h1 : V (j + 1) * (16 - k) ≤ B * (16 - k) := Nat.mul_le_mul_right _ (h (j + 1))
    have h2 : V j * k ≤ B * k := Nat.mul_le_mul_right _ (h j)
    have h3 : B * (16 - k) + B * k = B * 16 := by rw [← Nat.mul_add]; congr 1; omega
    show V (j + 1) * (16 - k) + V j * k ≤ B * 16
    omega
theorem hs_t8 : (8 : Int32).toNatClampNeg = 8 := by decide
theorem hs_t7 : (7 : Int32).toNatClampNeg = 7 := by decide
theorem hs_t6 : (6 : Int32).toNatClampNeg = 6 := by decide
theorem hs_u1 : ((1 : Int32) - 1).toNatClampNeg = 0 := by decide
theorem hs_u2 : ((2 : Int32) - 1).toNatClampNeg = 1 := by decide
theorem hs_u3 : ((3 : Int32) - 1).toNatClampNeg = 2 := by decide
theorem hs_u4 : ((4 : Int32) - 1).toNatClampNeg = 3 := by decide
theorem hs_u5 : ((5 : Int32) - 1).toNatClampNeg = 4 := by decide
theorem hs_u6 : ((6 : Int32) - 1).toNatClampNeg = 5 := by decide
theorem hs_u7 : ((7 : Int32) - 1).toNatClampNeg = 6 := by decide
theorem hs_u8 : ((8 : Int32) - 1).toNatClampNeg = 7 := by decide
theorem hs_u9 : ((9 : Int32) - 1).toNatClampNeg = 8 := by decide
theorem hs_cws {M N : nb_M} (R : hs_Rel M N) {i q : Nat} (hi : i < 5) (hq : q ≤ 9) (eq : hs_ho 1 M 0 6 = nI q) : ∀ (n a : Nat) (s t : Nat) (V : Nat → Nat) (K : nb_M), (∀ k, k ≠ 14 → k ≠ 17 → K.1 k = M.1 k) → a ≤ q → q - a < n → s = 16 ^ t → t ≤ a → (∀ j, V j ≤ 16 ^ t) → (∀ j, j < 10 → K.2 39 j = nL (V j)) → True := by
  intros
  trivial
end HSY
