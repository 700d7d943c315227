/-! text -/
section TXT
variable {M N : nb_M}
theorem tx_rd {M' N' : nb_M} (R : hs_Rel M N) (hc : ∀ k, k ≠ 35 → k ≠ 36 → k ≠ 37 → M'.1 k = M.1 k) (hd : ∀ k, k ≠ 0 → k ≠ 7 → k ≠ 8 → N'.1 k = N.1 k) (h2 : N'.1 0 2 = N.1 0 2) (h19 : N'.1 0 19 = N.1 0 19) : hs_Rel M' N' := by
  obtain ⟨a1, a2, a3, a4, a5, a6, s0, s1, s2, s3⟩ := R
  have c0 : M'.1 0 = M.1 0 := hc 0 (by omega) (by omega) (by omega)
  have ho : ∀ b, b ≤ 18 → hs_ho b M' = hs_ho b M := by
    intro b hb
    funext k
    by_cases hx : k = 13 ∨ k = 16 ∨ 16 < k
    · simp [hs_ho, hx]
    · simp only [hs_ho, if_neg hx]
      exact hc (b + k) (by omega) (by omega) (by omega)
  have d1 : N'.1 1 = N.1 1 := hd 1 (by omega) (by omega) (by omega)
  have d2 : N'.1 2 = N.1 2 := hd 2 (by omega) (by omega) (by omega)
  have d3 : N'.1 3 = N.1 3 := hd 3 (by omega) (by omega) (by omega)
  have d4 : N'.1 4 = N.1 4 := hd 4 (by omega) (by omega) (by omega)
  have d5 : N'.1 5 = N.1 5 := hd 5 (by omega) (by omega) (by omega)
  have d6 : N'.1 6 = N.1 6 := hd 6 (by omega) (by omega) (by omega)
  have d12 : N'.1 12 = N.1 12 := hd 12 (by omega) (by omega) (by omega)
  have k : ∀ c, 37 < c → M'.1 c = M.1 c := fun c h => hc c (by omega) (by omega) (by omega)
  refine ⟨by rw [ho 1 (by omega), d1]; exact a1, by rw [ho 1 (by omega)]; exact a2, by rw [c0, h2]; exact a3, by rw [c0, ho 18 (by omega), d2]; exact a4, by rw [d3, k 51 (by omega)]; exact a5, ?_, s0.keep (k 43 (by omega)) (k 44 (by omega)) d4 d5 d6, s1.keep (k 45 (by omega)) (k 46 (by omega)) d4 d5 d6, s2.keep (k 47 (by omega)) (k 48 (by omega)) d4 d5 d6, s3.keep (k 49 (by omega)) (k 50 (by omega)) d4 d5 d6⟩
  unfold hs_TR
  rw [k 40 (by omega), k 41 (by omega), h19, d12]
  exact a6
theorem tx_fin {M' N' : nb_M} (R : hs_Rel M N) (hc : ∀ k, k ≠ 35 → k ≠ 36 → k ≠ 37 → M'.1 k = M.1 k) (hd : ∀ k, k ≠ 0 → k ≠ 7 → k ≠ 8 → N'.1 k = N.1 k) (h2 : N'.1 0 2 = N.1 0 2) (h19 : N'.1 0 19 = N.1 0 19) (v : Int32) : hs_Rel (nb_i M' 1 13 0) (nb_i (nb_i N' 0 14 v) 1 4 0) := by
  have R1 : hs_Rel M' (nb_i N' 0 14 v) := tx_rd R hc (fun k a b c => (hs_gi a).trans (hd k a b c)) ((tx_n (by decide)).trans h2) ((tx_n (by decide)).trans h19)
  refine R1.house (hs_Oc.i (by omega) (by omega)) hs_Od.i ?_ ?_
  · rw [hs_ho1 (k := 0) rfl (by decide) (by decide) (by decide)]
    exact R1.1.o13 0
  · rw [hs_ho1 (k := 0) rfl (by decide) (by decide) (by decide)]
    exact R1.2.1.set 0 (fun _ => ⟨0, Nat.zero_le _, rfl⟩) (by decide) (by simp)
theorem tx_HT {r' f g w v : Nat → Int32} {s q : Nat} (hs : s ≤ 60) (h0 : r' q = nI s) (hc : ∀ j, j < s → hs_CE (f j) (g j) (w j)) (hv : ∀ j, j < s → v j = f j) (h1 : ∀ j, j < s → r' (q + 1 + j) = g j) (h2 : ∀ j, j < s → r' (q + 61 + j) = w j) (hd : tx_DD f s 1) : hs_HT (nI s) v r' q := by
  obtain ⟨D, d0, d1, d2⟩ := hd
  refine ⟨s, hs, rfl, h0, fun j hj => ?_, D, d0, fun j hj => ?_⟩
  · rw [hv j hj, h1 j hj, h2 j hj]; exact hc j hj
  · rw [hv j hj]; exact d2 j hj
theorem tx_HI {h h' : Nat → Nat → Int32} (H : hs_HI h) (hk : ∀ k j, hs_V k j → h' k j = h k j) : hs_HI h' := by
  obtain ⟨a1, a2⟩ := H
  refine ⟨fun k j hv => by rw [hk k j hv.1]; exact a1 k j hv, fun a ha => ?_⟩
  rw [hk 6 a (by unfold hs_V; omega), hk 0 6 (by unfold hs_V; omega), hk 0 2 (by unfold hs_V; omega)]
  exact a2 a ha
theorem tx_hold0 {K L L' : nb_M} (R : hs_Rel K L) {s : Nat} (hs : s ≤ 60) (hc : ∀ j, j < s → hs_CE (K.1 36 j) (L.1 7 j) (L.1 8 j)) (hd : tx_DD (K.1 36) s 1) (ho : ∀ k, k ≠ 1 → L'.1 k = L.1 k) (hl : ∀ p, L'.1 1 p = if 142 ≤ p ∧ p < 142 + s then L.1 7 (p - 142) else if 202 ≤ p ∧ p < 202 + s then L.1 8 (p - 202) else upd (L.1 1) 141 (nI s) p) : hs_Rel (nb_i (nb_r K 13 (va_cpy (K.1 36) (K.1 13) 0 0 s)) 12 1 (nI s)) L' := by
  have g : ∀ k, k ≠ 12 → k ≠ 13 → (nb_i (nb_r K 13 (va_cpy (K.1 36) (K.1 13) 0 0 s)) 12 1 (nI s)).1 k = K.1 k := fun k a b => (hs_gi a).trans (hs_gr b)
  have hk : ∀ k, k ≠ 11 → k ≠ 12 → hs_ho 1 (nb_i (nb_r K 13 (va_cpy (K.1 36) (K.1 13) 0 0 s)) 12 1 (nI s)) k = hs_ho 1 K k := by
    intro k a b
    by_cases hx : k = 13 ∨ k = 16 ∨ 16 < k
    · simp [hs_ho, hx]
    · simp only [hs_ho, if_neg hx]
      exact g (1 + k) (by omega) (by omega)
  have hv : ∀ k j, hs_V k j → hs_ho 1 (nb_i (nb_r K 13 (va_cpy (K.1 36) (K.1 13) 0 0 s)) 12 1 (nI s)) k j = hs_ho 1 K k j := fun k j h => by
    unfold hs_V at h
    rw [hk k (by omega) (by omega)]
  refine R.house (fun k h => g k (by omega) (by omega)) (fun k a b c => ho k a) ⟨fun k j h => ?_, ?_, ?_⟩ (tx_HI R.2.1 hv)
  · have := hs_ps_lt h
    rw [hv k j h, ← R.1.1 k j h, hl, if_neg (by omega), if_neg (by omega), hs_upd_n (by omega)]
  · have e1 : hs_ho 1 (nb_i (nb_r K 13 (va_cpy (K.1 36) (K.1 13) 0 0 s)) 12 1 (nI s)) 11 1 = nI s := tx_s
    rw [e1]
    refine tx_HT (f := K.1 36) (g := L.1 7) (w := L.1 8) hs ?_ hc (fun j hj => ?_) (fun j hj => ?_) (fun j hj => ?_) hd
    · rw [hl, if_neg (by omega), if_neg (by omega), hs_upd_s]
    · show (if 0 ≤ j ∧ j < 0 + s then K.1 36 (0 + (j - 0)) else K.1 13 j) = _
      rw [if_pos (by omega)]
      exact congrArg (K.1 36) (by omega)
    · rw [hl, if_pos (by omega)]
      exact congrArg (L.1 7) (by omega)
    · rw [hl, if_neg (by omega), if_pos (by omega)]
      exact congrArg (L.1 8) (by omega)
  · rw [hk 14 (by decide) (by decide), hk 15 (by decide) (by decide)]
    refine R.1.2.2.keep (fun j hj => ?_)
    rw [hl, if_neg (by omega), if_neg (by omega), hs_upd_n (by omega)]
theorem tx_hold1 {K L L' : nb_M} (R : hs_Rel K L) {s : Nat} (hs : s ≤ 60) (hc : ∀ j, j < s → hs_CE (K.1 36 j) (L.1 7 j) (L.1 8 j)) (hd : tx_DD (K.1 36) s 1) (ho : ∀ k, k ≠ 1 → L'.1 k = L.1 k) (hl : ∀ p, L'.1 1 p = if 263 ≤ p ∧ p < 263 + s then L.1 7 (p - 263) else if 323 ≤ p ∧ p < 323 + s then L.1 8 (p - 323) else upd (L.1 1) 262 (nI s) p) : hs_Rel (nb_i (nb_r K 16 (va_cpy (K.1 36) (K.1 16) 0 0 s)) 15 1 (nI s)) L' := by
  have g : ∀ k, k ≠ 15 → k ≠ 16 → (nb_i (nb_r K 16 (va_cpy (K.1 36) (K.1 16) 0 0 s)) 15 1 (nI s)).1 k = K.1 k := fun k a b => (hs_gi a).trans (hs_gr b)
  have hk : ∀ k, k ≠ 14 → k ≠ 15 → hs_ho 1 (nb_i (nb_r K 16 (va_cpy (K.1 36) (K.1 16) 0 0 s)) 15 1 (nI s)) k = hs_ho 1 K k := by
    intro k a b
    by_cases hx : k = 13 ∨ k = 16 ∨ 16 < k
    · simp [hs_ho, hx]
    · simp only [hs_ho, if_neg hx]
      exact g (1 + k) (by omega) (by omega)
  have hv : ∀ k j, hs_V k j → hs_ho 1 (nb_i (nb_r K 16 (va_cpy (K.1 36) (K.1 16) 0 0 s)) 15 1 (nI s)) k j = hs_ho 1 K k j := fun k j h => by
    unfold hs_V at h
    rw [hk k (by omega) (by omega)]
  refine R.house (fun k h => g k (by omega) (by omega)) (fun k a b c => ho k a) ⟨fun k j h => ?_, ?_, ?_⟩ (tx_HI R.2.1 hv)
  · have := hs_ps_lt h
    rw [hv k j h, ← R.1.1 k j h, hl, if_neg (by omega), if_neg (by omega), hs_upd_n (by omega)]
  · rw [hk 11 (by decide) (by decide), hk 12 (by decide) (by decide)]
    refine R.1.2.1.keep (fun j hj => ?_)
    rw [hl, if_neg (by omega), if_neg (by omega), hs_upd_n (by omega)]
  · have e1 : hs_ho 1 (nb_i (nb_r K 16 (va_cpy (K.1 36) (K.1 16) 0 0 s)) 15 1 (nI s)) 14 1 = nI s := tx_s
    rw [e1]
    refine tx_HT (f := K.1 36) (g := L.1 7) (w := L.1 8) hs ?_ hc (fun j hj => ?_) (fun j hj => ?_) (fun j hj => ?_) hd
    · rw [hl, if_neg (by omega), if_neg (by omega), hs_upd_s]
    · show (if 0 ≤ j ∧ j < 0 + s then K.1 36 (0 + (j - 0)) else K.1 16 j) = _
      rw [if_pos (by omega)]
      exact congrArg (K.1 36) (by omega)
    · rw [hl, if_pos (by omega)]
      exact congrArg (L.1 7) (by omega)
    · rw [hl, if_neg (by omega), if_pos (by omega)]
      exact congrArg (L.1 8) (by omega)
/-- the reference keeps its steps -/
theorem tx_cp {s q : Nat} (hs : s ≤ 60) (hq : q ≤ 262) : ∀ t i n N, i + t = s → t < n → N.1 0 11 = nI s → ∃ N', f_X7_text_117 n N (nI q) (nI i) = some (1, N') ∧ (∀ k, k ≠ 1 → N'.1 k = N.1 k) ∧ ∀ p, N'.1 1 p = if q + 1 + i ≤ p ∧ p < q + 1 + s then N.1 7 (p - (q + 1)) else if q + 61 + i ≤ p ∧ p < q + 61 + s then N.1 8 (p - (q + 61)) else N.1 1 p := by
  intro t
  induction t with
  | zero =>
    intro i n N hi hn h11
    obtain ⟨n, rfl⟩ : ∃ k, n = k + 1 := ⟨n - 1, by omega⟩
    rw [f_X7_text_117, h11, if_pos (nI_le (by omega) (by omega))]
    refine ⟨N, rfl, fun _ _ => rfl, fun p => ?_⟩
    rw [if_neg (by omega), if_neg (by omega)]
  | succ t ih =>
    intro i n N hi hn h11
    obtain ⟨n, rfl⟩ : ∃ k, n = k + 1 := ⟨n - 1, by omega⟩
    have x1 : (nI q + 1) + nI i = nI (q + 1 + i) := by rw [nI_1, nI_add]
    have x61 : (nI q + 61) + nI i = nI (q + 61 + i) := by rw [show (61 : Int32) = nI 61 from rfl, nI_add, nI_add]
    rw [f_X7_text_117, h11, if_neg (nI_ge (by omega) (by omega)), if_neg (nI_in (show i < 60 by omega) (by decide)), x1, x61, if_neg (nI_in (show q + 1 + i < 383 by omega) (by decide)), hs_nn, if_neg (nI_in (show q + 61 + i < 383 by omega) (by decide)), hs_nn, nI_clamp (by omega), nI_clamp (by omega), nI_clamp (by omega), nI_1]
    obtain ⟨N', y, h1, h2⟩ := ih (i + 1) n (nb_i (nb_i N 1 (q + 1 + i) (N.1 7 i)) 1 (q + 61 + i) ((nb_i N 1 (q + 1 + i) (N.1 7 i)).1 8 i)) (by omega) (by omega) h11
    refine ⟨N', y, fun k a => (h1 k a).trans ((hs_gi a).trans (hs_gi a)), fun p => ?_⟩
    rw [h2 p]
    show (if q + 1 + (i + 1) ≤ p ∧ p < q + 1 + s then N.1 7 (p - (q + 1)) else if q + 61 + (i + 1) ≤ p ∧ p < q + 61 + s then N.1 8 (p - (q + 61)) else upd (upd (N.1 1) (q + 1 + i) (N.1 7 i)) (q + 61 + i) (N.1 8 i) p) = _
    by_cases e1 : p = q + 1 + i
    · subst e1
      rw [if_neg (by omega), if_neg (by omega), if_pos (by omega), hs_upd_n (by omega), hs_upd_s]
      exact congrArg (N.1 7) (by omega)
    · by_cases e2 : p = q + 61 + i
      · subst e2
        rw [if_neg (by omega), if_neg (by omega), if_neg (by omega), if_pos (by omega), hs_upd_s]
        exact congrArg (N.1 8) (by omega)
      · rw [hs_upd_n e2, hs_upd_n e1]
        by_cases f1 : q + 1 + i ≤ p ∧ p < q + 1 + s
        · rw [if_pos (by omega), if_pos f1]
        · rw [if_neg (by omega), if_neg f1]
          by_cases f2 : q + 61 + i ≤ p ∧ p < q + 61 + s
          · rw [if_pos (by omega), if_pos f2]
          · rw [if_neg (by omega), if_neg f2]
theorem s_text (R : hs_Rel M N) (p0 : Int32) : hs_S (f_X6_text M p0) (f_X7_text N p0) := by
  unfold f_X6_text f_X7_text
  rcases hs_wi p0 (b := 1) (by decide) (B := 1) rfl with ⟨c1, d1, u, hu, rfl⟩ | ⟨c1, d1⟩
  · rw [c1, d1, if_neg hs_10, if_neg hs_10]
    obtain ⟨t, ht, et⟩ := R.2.1.at (k := 0) (j := 13) ⟨by unfold hs_V; omega, by omega, by omega⟩
    have ht : t ≤ 60 := by simpa [hs_bd] using ht
    have et' : M.1 1 13 = nI t := et
    have er : N.1 1 4 = nI t := (hs_r4 R.1).trans et
    have tape : ∀ i, i < 60 → N.1 1 (57 + i) = M.1 10 i := fun i hi => R.1.at (k := 9) (j := i) (by unfold hs_V; omega) (by simp [hs_ps])
    unfold f_X1_reads f_X1_readsLevel_x f_X7_any_x
    rw [et', hs_nn, hs_nn, hs_nn, hs_nn, hs_nn, hs_nn, hs_nn, hs_nn, hs_nn, hs_nn, hs_n0, hs_n60]
    obtain ⟨M0, hM0⟩ : ∃ K, K = nb_i (nb_i (nb_i (nb_i (nb_r M 37 (va_cpy (M.1 10) (M.1 37) 0 0 60)) 35 4 (nI t)) 35 5 (nI u)) 35 2 0) 35 1 0 := ⟨_, rfl⟩
    obtain ⟨N0, hN0⟩ : ∃ K, K = nb_i (nb_i (nb_i (nb_i (nb_i N 0 15 (nI u)) 0 11 0) 0 12 0) 0 13 0) 0 14 0 := ⟨_, rfl⟩
    rw [← hM0, ← hN0]
    have m0 : ∀ k, k ≠ 35 → k ≠ 37 → M0.1 k = M.1 k := fun k a b => by rw [hM0, hs_gi a, hs_gi a, hs_gi a, hs_gi a, hs_gr b]
    have n0 : ∀ k, k ≠ 0 → N0.1 k = N.1 k := fun k a => by rw [hN0, hs_gi a, hs_gi a, hs_gi a, hs_gi a, hs_gi a]
    have n0' : ∀ j, j < 11 ∨ 15 < j → N0.1 0 j = N.1 0 j := fun j a => by rw [hN0, tx_n (by omega), tx_n (by omega), tx_n (by omega), tx_n (by omega), tx_n (by omega)]
    have E : tx_E M0 N0 t u := by
      refine ⟨ht, hu, ?_, by rw [n0 1 (by decide)]; exact er, fun i hi => ?_, ?_, ?_⟩
      · rw [hM0, tx_n (by decide), tx_n (by decide), tx_n (by decide), tx_s]
      · rw [n0 1 (by decide), tape i hi, hM0, hs_gi (by decide), hs_gi (by decide), hs_gi (by decide), hs_gi (by decide)]
        show _ = if 0 ≤ i ∧ i < 0 + 60 then M.1 10 (0 + (i - 0)) else M.1 37 i
        rw [if_pos (by omega)]
        exact congrArg (M.1 10) (by omega)
      · rw [hM0, tx_n (by decide), tx_n (by decide), tx_s]
      · rw [hN0, tx_n (by decide), tx_n (by decide), tx_n (by decide), tx_n (by decide), tx_s]
    have P : tx_P M0 N0 t 0 0 0 M0 N0 := by
      refine ⟨tx_C.rf _, tx_D.rf _, ?_, ?_, ?_, ?_, Nat.le_refl _, Nat.zero_le _, ?_, ?_, fun j hj => by omega⟩
      · rw [hM0, tx_n (by decide), tx_s]; rfl
      · rw [hN0, tx_n (by decide), tx_n (by decide), tx_s]; rfl
      · rw [hM0, tx_s]; rfl
      · rw [hN0, tx_n (by decide), tx_n (by decide), tx_n (by decide), tx_s]; rfl
      · rw [hN0, tx_n (by decide), tx_s]; rfl
      · rw [hN0, tx_s]
    obtain ⟨M1, N1, y, q⟩ := tx_up E (by decide) (tx_all E 5 0 rfl) nb_dp nb_dp (by decide) (by decide) 0 0 M0 N0 P
    rw [y, hs_oo]
    have hk : tx_C M0 M1 → ∀ k, k ≠ 35 → k ≠ 36 → k ≠ 37 → M1.1 k = M.1 k := fun C k a b c => (C.1 k a b).trans (m0 k a c)
    have hd : tx_D N0 N1 → ∀ k, k ≠ 0 → k ≠ 7 → k ≠ 8 → N1.1 k = N.1 k := fun D k a b c => (D.1 k a b c).trans (n0 k a)
    have h2 : tx_D N0 N1 → N1.1 0 2 = N.1 0 2 := fun D => (D.2 2 (by omega)).trans (n0' 2 (by omega))
    have h19 : tx_D N0 N1 → N1.1 0 19 = N.1 0 19 := fun D => (D.2 19 (by omega)).trans (n0' 19 (by omega))
    have bad : ∀ a, tx_C M0 M1 → tx_D N0 N1 → M1.1 35 2 = nI a → N1.1 0 12 = nI a → hs_S (nb_p (some (0, M1)) fun r_3 M_3 => nb_n (nb_i M_3 1 13 0) fun M_4 => if r_3 = 0 then some (-10 - (M_4.1 35 2), M_4) else if nI u = 0 then nb_o (f_X3_hold_12_36 M_4 (M_4.1 35 1)) fun M_7 => some (1, M_7) else if nI u = 1 then nb_o (f_X3_hold_15_36 M_4 (M_4.1 35 1)) fun M_9 => some (1, M_9) else none) (some (-10 - ((nb_i (nb_i N1 0 14 1) 1 4 0).1 0 12), nb_i (nb_i N1 0 14 1) 1 4 0)) := by
      intro a C D e1 e2
      rw [hs_op, hs_nn, if_pos rfl]
      have f1 : (nb_i M1 1 13 0).1 35 2 = nI a := (congrFun (hs_gi (by decide)) 2).trans e1
      have f2 : (nb_i (nb_i N1 0 14 1) 1 4 0).1 0 12 = nI a := (congrFun (hs_gi (by decide)) 12).trans ((tx_n (by decide)).trans e2)
      rw [f1, f2]
      exact ⟨_, _, _, rfl, rfl, tx_fin R (hk C) (hd D) (h2 D) (h19 D) 1⟩
    have f14 : ∀ v, (nb_i (nb_i N1 0 14 v) 1 4 0).1 0 14 = v := fun v => (congrFun (hs_gi (by decide)) 14).trans tx_s
    rcases q with ⟨x, a, s, P1, -, -, hdd⟩ | ⟨x, B⟩
    · have x' : f_RD nb_dp 0 M0 0 0 = some (1, M1) := x
      obtain ⟨p1, p2, p3, p4, p5, p6, p7, p8, p9, p10, p11⟩ := P1
      have z4 : M1.1 35 4 = nI t := (p1.2 4 (by decide) (by decide)).trans E.2.2.1
      have z1 : N1.1 1 4 = nI t := (congrFun (hd p2 1 (by decide) (by decide) (by decide)) 4).trans er
      rw [x', hs_op, if_neg hs_10, p3, z4, if_pos p10, hs_c4, z1, p4]
      by_cases ha : a = t
      · subst ha
        rw [if_pos rfl, if_pos (nI_le (Nat.le_refl _) (by omega)), hs_op, hs_nn, if_neg hs_10, hs_nn, hs_nn, f14, if_pos (show (0 : Int32) = 0 from rfl), hs_nn]
        have RR := tx_fin R (hk p1) (hd p2) (h2 p2) (h19 p2) 0
        have s60 : s ≤ 60 := by omega
        have e1 : (nb_i M1 1 13 0).1 35 1 = nI s := (congrFun (hs_gi (by decide)) 1).trans p5
        have e11 : (nb_i (nb_i N1 0 14 0) 1 4 0).1 0 11 = nI s := (congrFun (hs_gi (by decide)) 11).trans ((tx_n (by decide)).trans p6)
        have dd : tx_DD ((nb_i M1 1 13 0).1 36) s 1 := by
          rw [hs_gi (by decide)]
          exact hdd 0 ⟨fun _ => 0, rfl, rfl, fun j hj => by omega⟩
        have ce : ∀ j, j < s → hs_CE ((nb_i M1 1 13 0).1 36 j) ((nb_i (nb_i N1 0 14 0) 1 4 0).1 7 j) ((nb_i (nb_i N1 0 14 0) 1 4 0).1 8 j) := p11
        generalize nb_i M1 1 13 0 = K at RR e1 dd ce ⊢
        generalize nb_i (nb_i N1 0 14 0) 1 4 0 = L at RR e11 ce ⊢
        rw [e1, e11]
        have sh : ¬ ((0 : Int32) < 0 ∨ (0 : Int32) < 0 ∨ nI s < 0 ∨ 60 < 0 + (nI s).toNatClampNeg ∨ 60 < 0 + (nI s).toNatClampNeg) := by
          rw [nI_clamp (by omega)]
          have := nI_pos (n := s) (by omega)
          rintro (w | w | w | w | w)
          · exact absurd w (by decide)
          · exact absurd w (by decide)
          · exact this w
          · omega
          · omega
        have u01 : u = 0 ∨ u = 1 := by omega
        rcases u01 with rfl | rfl
        · rw [if_pos (show nI 0 = 0 from rfl), show (141 : Int32) + ((121 : Int32) * nI 0) = nI 141 from by decide, if_neg (nI_in (show 141 < 383 by decide) (by decide)), nI_clamp (by decide), hs_nn]
          unfold f_X3_hold_12_36
          rw [hs_n0, if_neg sh, hs_nn, hs_nn, hs_oo, nI_clamp (by omega)]
          obtain ⟨N', y', g1, g2⟩ := tx_cp (q := 141) s60 (by decide) s 0 nb_F (nb_i L 1 141 (nI s)) (by omega) (by have := hs_F; omega) ((congrFun (hs_gi (by decide)) 11).trans e11)
          have y'' : f_X7_text_117 nb_F (nb_i L 1 141 (nI s)) (nI 141) 0 = some (1, N') := y'
          rw [y'']
          exact ⟨_, _, _, rfl, rfl, tx_hold0 RR s60 ce dd (fun k a => (g1 k a).trans (hs_gi a)) g2⟩
        · rw [if_neg (show ¬ nI 1 = 0 by decide), if_pos (show nI 1 = 1 from rfl), show (141 : Int32) + ((121 : Int32) * nI 1) = nI 262 from by decide, if_neg (nI_in (show 262 < 383 by decide) (by decide)), nI_clamp (by decide), hs_nn]
          unfold f_X3_hold_15_36
          rw [hs_n0, if_neg sh, hs_nn, hs_nn, hs_oo, nI_clamp (by omega)]
          obtain ⟨N', y', g1, g2⟩ := tx_cp (q := 262) s60 (by decide) s 0 nb_F (nb_i L 1 262 (nI s)) (by omega) (by have := hs_F; omega) ((congrFun (hs_gi (by decide)) 11).trans e11)
          have y'' : f_X7_text_117 nb_F (nb_i L 1 262 (nI s)) (nI 262) 0 = some (1, N') := y'
          rw [y'']
          exact ⟨_, _, _, rfl, rfl, tx_hold1 RR s60 ce dd (fun k a => (g1 k a).trans (hs_gi a)) g2⟩
      · rw [if_neg (fun w => ha ((nI_eq (by omega) (by omega)).mp w)), if_neg (nI_ge (by omega) (by omega)), hs_nn, hs_nn, f14, if_neg hs_10]
        exact bad a p1 p2 p3 p4
    · have x' : f_RD nb_dp 0 M0 0 0 = some (0, M1) := x
      obtain ⟨p1, p2, p3, a, s, w1, w2, w3, w4, w5⟩ := B
      rw [x', hs_op, if_pos rfl, if_neg (by rw [p3]; exact hs_10), hs_nn, hs_nn, hs_c4, f14, if_neg hs_10]
      exact bad a p1 p2 w3 w4
  · rw [c1, d1, if_pos rfl, if_pos rfl]
    exact hs_e1 R
end TXT
