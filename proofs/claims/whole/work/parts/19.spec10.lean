/-! the calls: which to wall in, with how much care -/
def nb_0 : nb_M := (fun _ _ => 0, fun _ _ => 0)
theorem hs_sv1 (M : nb_M) : ∀ (n : Nat) (a b c d : Int32), f_X4_savesOf_27 n M a b c d = f_X4_savesOf_27 n nb_0 a b c d := by
  intro n
  induction n with
  | zero => intro a b c d; rfl
  | succ n ih =>
    intro a b c d
    rw [f_X4_savesOf_27, f_X4_savesOf_27]
    simp only [nb_n]
    rw [ih, ih]
theorem hs_sv2 (M : nb_M) (w : Int32) : ∀ (n : Nat) (a b c d : Int32), f_X7_saves_81 n M w a b c d = (f_X7_saves_81 n nb_0 w a b c d).map (fun q => (q.1, M)) := by
  intro n
  induction n with
  | zero => intro a b c d; rfl
  | succ n ih =>
    intro a b c d
    rw [f_X7_saves_81, f_X7_saves_81]
    simp only [nb_n]
    rw [ih]
    repeat' split
    all_goals rfl
def hs_svm (s e : Nat) : Int32 := if 0 ≤ (f_X6_bitsIn (nI s) - nI (e + 1)) + 1 then (f_X6_bitsIn (nI s) - nI (e + 1)) + 1 else 0
def hs_svc (s e : Nat) : Option Int32 := f_X4_savesOf_27 nb_F nb_0 (nI s) (f_X6_bitsIn (nI s) - (nI (e + 1) - 1)) 0 0
theorem hs_svd : ∀ e, e < 9 → ∀ s, s < 512 → (hs_svc s e).isSome = true ∧ (f_X7_saves_81 nb_F nb_0 0 (hs_svm s e) 0 (nI s) 0).map Prod.fst = (hs_svc s e).map f_X6_bitsIn ∧ (f_X7_saves_81 nb_F nb_0 1 (hs_svm s e) 0 (nI s) 0).map Prod.fst = hs_svc s e := by decide +kernel
section HSN
variable {M N : nb_M}
theorem s_saves (R : hs_Rel M N) (p0 p1 : Int32) : hs_S (f_X6_saves M p0 p1) (f_X7_saves N p0 p1) := by
  unfold f_X6_saves f_X7_saves
  rcases hs_per R p0 with ⟨c1, d1, i, hi, -, rfl⟩ | ⟨c1, d1⟩
  · rw [c1, d1, if_neg hs_10, if_neg hs_10]
    rcases hs_wi p1 (b := 1) (by decide) (B := 1) rfl with ⟨c2, d2, t, ht, rfl⟩ | ⟨c2, d2⟩
    · rw [c2, d2, if_neg hs_10, if_neg hs_10, hs_cth hi, hs_rth R.1 hi]
      simp only [nb_o]
      by_cases z : hs_th (hs_ho 1 M) i = 0
      · rw [if_pos z, if_pos z]
        obtain ⟨s, hs, g1, g2⟩ := hs_lft R i
        obtain ⟨d, hd, ed⟩ := R.2.1.at (k := 2) (j := i) ⟨by unfold hs_V; omega, by omega, by omega⟩
        obtain ⟨x, hx, ex⟩ := R.2.1.at (k := 3) (j := i) ⟨by unfold hs_V; omega, by omega, by omega⟩
        have hd : d ≤ 9 := by simpa [hs_bd] using hd
        have hx : x ≤ 9999 := by simpa [hs_bd] using hx
        have hlt : x < d := by
          unfold hs_th at z
          rw [ed, ex] at z
          by_cases w : nI x < nI d
          · exact (nI_ltI (by omega) (by omega)).mp w
          · rw [if_neg w] at z; exact absurd z hs_10
        obtain ⟨e, he⟩ : ∃ e, d - x = e + 1 := ⟨d - x - 1, by omega⟩
        have edue : hs_due (hs_ho 1 M) i = nI (e + 1) := by
          unfold hs_due
          rw [ed, ex, pk_sub (by omega), he, if_pos (show (0 : Int32) < nI (e + 1) from nI_lt (a := 0) (by omega) (by omega))]
        unfold f_X4_savesOf
        rw [g1, g2, hs_cdue hi, hs_rdue R.1 hi, edue]
        simp only [nb_o, nb_n, hs_bits s hs]
        rw [hs_sv1]
        obtain ⟨k1, k2, k3⟩ := hs_svd e (by omega) s hs
        have k0 : f_X4_savesOf_27 nb_F nb_0 (nI s) (f_X6_bitsIn (nI s) - (nI (e + 1) - 1)) 0 0 = hs_svc s e := rfl
        rw [k0]
        have join : (if 0 ≤ f_X6_bitsIn (nI s) - nI (e + 1) + 1 then f_X7_saves_81 nb_F N (nI t) (f_X6_bitsIn (nI s) - nI (e + 1) + 1) 0 (nI s) 0 else f_X7_saves_81 nb_F N (nI t) 0 0 (nI s) 0) = f_X7_saves_81 nb_F N (nI t) (hs_svm s e) 0 (nI s) 0 := by
          unfold hs_svm
          split <;> rfl
        rw [join, hs_sv2]
        generalize hs_svc s e = c at k1 k2 k3
        cases c with
        | none => cases k1
        | some v =>
          simp only
          have ht2 : t = 0 ∨ t = 1 := by omega
          rcases ht2 with rfl | rfl
          · have k2' : (f_X7_saves_81 nb_F nb_0 (nI 0) (hs_svm s e) 0 (nI s) 0).map Prod.fst = some (f_X6_bitsIn v) := k2
            generalize f_X7_saves_81 nb_F nb_0 (nI 0) (hs_svm s e) 0 (nI s) 0 = y at k2'
            cases y with
            | none => cases k2'
            | some y =>
              have : y.1 = f_X6_bitsIn v := Option.some.inj k2'
              rw [if_pos (show nI 0 = 0 from rfl)]
              exact ⟨_, _, _, rfl, by rw [← this]; rfl, R⟩
          · have k3' : (f_X7_saves_81 nb_F nb_0 (nI 1) (hs_svm s e) 0 (nI s) 0).map Prod.fst = some v := k3
            generalize f_X7_saves_81 nb_F nb_0 (nI 1) (hs_svm s e) 0 (nI s) 0 = y at k3'
            cases y with
            | none => cases k3'
            | some y =>
              have : y.1 = v := Option.some.inj k3'
              rw [if_neg (show ¬ nI 1 = 0 from hs_10)]
              exact ⟨_, _, _, rfl, by rw [← this]; rfl, R⟩
      · rw [if_neg z, if_neg z]; exact hs_e3 R
    · rw [c2, d2, if_pos rfl, if_pos rfl]; exact hs_e1 R
  · rw [c1, d1, if_pos rfl, if_pos rfl]; exact hs_e1 R
end HSN
/-! with how much care: the sets -/
def hs_up (v : Nat → Int32) : Nat → Int32
  | 0 => 0
  | c + 1 => if v c = 0 then hs_up v c else hs_up v c ||| ((1 : Int32) <<< (nI c &&& 31))
def hs_dn (v : Nat → Int32) : Nat → Int32 × Int32
  | 0 => (0, -1)
  | c + 1 => if v (9 - c) = 0 then hs_dn v c else ((hs_dn v c).1 ||| ((1 : Int32) <<< (nI (9 - c) &&& 31)), nI (9 - c))
theorem hs_up_c {v w : Nat → Int32} : ∀ n, (∀ c, c < n → v c = w c) → hs_up v n = hs_up w n
  | 0, _ => rfl
  | n + 1, h => by
    simp only [hs_up]
    rw [hs_up_c n (fun c hc => h c (by omega)), h n (by omega)]
theorem hs_dn_c {v w : Nat → Int32} (h : ∀ c, c < 10 → v c = w c) : ∀ n, hs_dn v n = hs_dn w n
  | 0 => rfl
  | n + 1 => by
    simp only [hs_dn]
    rw [hs_dn_c h n, h (9 - n) (by omega)]
def hs_bv (l : List Bool) (c : Nat) : Int32 := if l.getD c false = true then 1 else 0
theorem hs_fin : ∀ b0 b1 b2 b3 b4 b5 b6 b7 b8 b9 : Bool, (hs_dn (hs_bv [b0, b1, b2, b3, b4, b5, b6, b7, b8, b9]) 10).1 = hs_up (hs_bv [b0, b1, b2, b3, b4, b5, b6, b7, b8, b9]) 10 ∧ ((hs_up (hs_bv [b0, b1, b2, b3, b4, b5, b6, b7, b8, b9]) 10 = 0 ∧ ¬ 0 ≤ (hs_dn (hs_bv [b0, b1, b2, b3, b4, b5, b6, b7, b8, b9]) 10).2) ∨ (¬ hs_up (hs_bv [b0, b1, b2, b3, b4, b5, b6, b7, b8, b9]) 10 = 0 ∧ 0 ≤ (hs_dn (hs_bv [b0, b1, b2, b3, b4, b5, b6, b7, b8, b9]) 10).2 ∧ f_X6_lowestIn (hs_up (hs_bv [b0, b1, b2, b3, b4, b5, b6, b7, b8, b9]) 10) = some (hs_dn (hs_bv [b0, b1, b2, b3, b4, b5, b6, b7, b8, b9]) 10).2)) := by decide +kernel
theorem hs_sets {v : Nat → Int32} (hv : ∀ c, v c = 0 ∨ v c = 1) : (hs_dn v 10).1 = hs_up v 10 ∧ ((hs_up v 10 = 0 ∧ ¬ 0 ≤ (hs_dn v 10).2) ∨ (¬ hs_up v 10 = 0 ∧ 0 ≤ (hs_dn v 10).2 ∧ f_X6_lowestIn (hs_up v 10) = some (hs_dn v 10).2)) := by
  have key : ∀ x : Int32, (x = 0 ∨ x = 1) → x = if decide (x = 1) = true then 1 else 0 := by
    intro x h
    rcases h with h | h <;> subst h <;> decide
  have e : ∀ c, c < 10 → v c = hs_bv [decide (v 0 = 1), decide (v 1 = 1), decide (v 2 = 1), decide (v 3 = 1), decide (v 4 = 1), decide (v 5 = 1), decide (v 6 = 1), decide (v 7 = 1), decide (v 8 = 1), decide (v 9 = 1)] c := by
    intro c hc
    match c, hc with
    | 0, _ => exact key _ (hv 0)
    | 1, _ => exact key _ (hv 1)
    | 2, _ => exact key _ (hv 2)
    | 3, _ => exact key _ (hv 3)
    | 4, _ => exact key _ (hv 4)
    | 5, _ => exact key _ (hv 5)
    | 6, _ => exact key _ (hv 6)
    | 7, _ => exact key _ (hv 7)
    | 8, _ => exact key _ (hv 8)
    | 9, _ => exact key _ (hv 9)
  rw [hs_up_c 10 e, hs_dn_c e 10]
  exact hs_fin _ _ _ _ _ _ _ _ _ _
/-- a sheet of z numbers tells the risks -/
def hs_B (h : Nat → Nat → Int32) (nu : Nat → Int32) (z q : Nat) (c : Int32) : Prop := z ≤ q ∧ ∀ k, k < z → nu k = hs_rk h k c
noncomputable def hs_Bv (h : Nat → Nat → Int32) (nu : Nat → Int32) (z q : Nat) (c : Nat) : Int32 := @ite Int32 (hs_B h nu z q (nI c)) (Classical.propDecidable _) 1 0
theorem hs_Bv1 {h : Nat → Nat → Int32} {nu : Nat → Int32} {z q c : Nat} (b : hs_B h nu z q (nI c)) : hs_Bv h nu z q c = 1 := if_pos b
theorem hs_Bv0 {h : Nat → Nat → Int32} {nu : Nat → Int32} {z q c : Nat} (b : ¬ hs_B h nu z q (nI c)) : hs_Bv h nu z q c = 0 := if_neg b
theorem hs_Bv01 (h : Nat → Nat → Int32) (nu : Nat → Int32) (z q : Nat) : ∀ c, hs_Bv h nu z q c = 0 ∨ hs_Bv h nu z q c = 1 := by
  intro c
  by_cases b : hs_B h nu z q (nI c)
  · exact Or.inr (hs_Bv1 b)
  · exact Or.inl (hs_Bv0 b)
section HSF
variable {M N : nb_M}
theorem hs_rso (R : hs_Rel M N) {i z q : Nat} {nu : Nat → Int32} (hi : i < 4) (hz : z ≤ 24) (hq : q ≤ 9) (ez : N.1 5 i = nI z) (eq : hs_ho 1 M 0 6 = nI q) (en : ∀ k, k < 24 → N.1 6 (24 * i + k) = nu k) (c : Nat) (hzq : z ≤ q) : ∀ (n k : Nat) (K : nb_M), hs_Sd N K → k ≤ z → (∀ j, j < k → nu j = hs_rk (hs_ho 1 M) j (nI c)) → z - k < n → ∃ K', f_X7_isSo_24 n K (nI i) (nI c) 1 (nI k) = some (hs_Bv (hs_ho 1 M) nu z q c, K') ∧ hs_Sd N K' := by
  intro n
  induction n with
  | zero => intro k K _ _ _ h; omega
  | succ n ih =>
    intro k K hK hk hj hn
    have RK := R.sc (hs_Sc.rf M) hK
    have e5 : K.1 5 i = nI z := by rw [hK.1 5 (by omega) (by omega)]; exact ez
    have h01 : ¬ ¬ ((1 : Int32) = 0 ∨ (1 : Int32) = 1) := by decide
    rw [f_X7_isSo_24, if_neg (nI_in (c := i) (N := 4) hi (by decide)), nI_clamp (show i < 2 ^ 31 by omega), e5]
    by_cases hl : k < z
    · have x0 : ((24 : Int32) * nI i) + nI k = nI (24 * i + k) := by rw [show (24 : Int32) = nI 24 from rfl, pk_mul, nI_add]
      rw [if_neg (nI_ge hl (by omega)), if_neg hs_10, x0, if_neg (nI_in (c := 24 * i + k) (N := 96) (by omega) (by decide)), nI_clamp (show 24 * i + k < 2 ^ 31 by omega)]
      obtain ⟨K', g1, g2⟩ := hs_rrk RK.1 RK.2.1 (a := k) (by omega) (nI c)
      rw [g1]
      simp only [nb_p]
      have e6 : K.1 6 (24 * i + k) = nu k := by rw [hK.1 6 (by omega) (by omega)]; exact en k (by omega)
      rw [e6, nI_1]
      by_cases w : nu k = hs_rk (hs_ho 1 M) k (nI c)
      · rw [if_pos w]
        exact ih (k + 1) K' (hK.tr g2) (by omega) (fun j h => by
          rcases Nat.lt_or_ge j k with y | y
          · exact hj j y
          · rw [show j = k by omega]; exact w) (by omega)
      · rw [if_neg w]
        have hb : ¬ hs_B (hs_ho 1 M) nu z q (nI c) := fun b => w (b.2 k hl)
        rw [hs_Bv0 hb]
        match n, hn with
        | n + 1, _ =>
          refine ⟨K', ?_, hK.tr g2⟩
          have e7 : K'.1 5 i = nI z := by rw [g2.1 5 (by omega) (by omega)]; exact e5
          rw [f_X7_isSo_24, if_neg (nI_in (c := i) (N := 4) hi (by decide)), nI_clamp (show i < 2 ^ 31 by omega), e7]
          have h00 : ¬ ¬ ((0 : Int32) = 0 ∨ (0 : Int32) = 1) := by decide
          by_cases y : nI z ≤ nI (k + 1)
          · rw [if_pos y, if_neg h00]
          · rw [if_neg y, if_pos rfl, if_neg h00]
        | 0, hn => omega
    · have : k = z := by omega
      subst this
      rw [if_pos (nI_le (Nat.le_refl _) (by omega)), if_neg h01]
      exact ⟨K, by rw [hs_Bv1 ⟨hzq, hj⟩], hK⟩
theorem hs_rso' (R : hs_Rel M N) {i z q : Nat} {nu : Nat → Int32} (hi : i < 4) (hz : z ≤ 24) (hq : q ≤ 9) (ez : N.1 5 i = nI z) (eq : hs_ho 1 M 0 6 = nI q) (en : ∀ k, k < 24 → N.1 6 (24 * i + k) = nu k) (c : Nat) (K : nb_M) (hK : hs_Sd N K) : ∃ K', f_X7_isSo K (nI i) (nI c) = some (hs_Bv (hs_ho 1 M) nu z q c, K') ∧ hs_Sd N K' := by
  have RK := R.sc (hs_Sc.rf M) hK
  have e5 : K.1 5 i = nI z := by rw [hK.1 5 (by omega) (by omega)]; exact ez
  have e2 : K.1 1 2 = nI q := (hs_r2 RK.1).trans eq
  unfold f_X7_isSo
  rw [if_neg (nI_in (c := i) (N := 4) hi (by decide)), nI_clamp (show i < 2 ^ 31 by omega), e5, hs_c2, e2]
  by_cases w : q < z
  · rw [if_pos (nI_lt w (by omega))]
    have hb : ¬ hs_B (hs_ho 1 M) nu z q (nI c) := fun b => by have := b.1; omega
    rw [hs_Bv0 hb]
    refine ⟨K, ?_, hK⟩
    have hF : nb_F = 999 + 1 := rfl
    rw [hF, f_X7_isSo_24, if_neg (nI_in (c := i) (N := 4) hi (by decide)), nI_clamp (show i < 2 ^ 31 by omega), e5]
    have h00 : ¬ ¬ ((0 : Int32) = 0 ∨ (0 : Int32) = 1) := by decide
    by_cases y : nI z ≤ (0 : Int32)
    · rw [if_pos y, if_neg h00]
    · rw [if_neg y, if_pos rfl, if_neg h00]
  · rw [if_neg (nI_nlt (by omega) (by omega))]
    exact hs_rso R hi hz hq ez eq en c (by omega) nb_F 0 K hK (by omega) (fun j h => by omega) (by have := hs_F; omega)
theorem hs_rft (R : hs_Rel M N) {i z q : Nat} {nu : Nat → Int32} (hi : i < 4) (hz : z ≤ 24) (hq : q ≤ 9) (ez : N.1 5 i = nI z) (eq : hs_ho 1 M 0 6 = nI q) (en : ∀ k, k < 24 → N.1 6 (24 * i + k) = nu k) (w : Int32) : ∀ (n d : Nat) (K : nb_M), hs_Sd N K → d ≤ 10 → 10 - d < n → ∃ K', hs_Sd N K' ∧ f_X7_fits_57 n K (nI i) w (hs_dn (hs_Bv (hs_ho 1 M) nu z q) d).1 (hs_dn (hs_Bv (hs_ho 1 M) nu z q) d).2 (9 - nI d) = if w = 0 then some ((hs_dn (hs_Bv (hs_ho 1 M) nu z q) 10).1, K') else if 0 ≤ (hs_dn (hs_Bv (hs_ho 1 M) nu z q) 10).2 then some ((hs_dn (hs_Bv (hs_ho 1 M) nu z q) 10).2, K') else nb_p (f_X7_error K' (-1000000002)) fun r M => some (r, M) := by
  intro n
  induction n with
  | zero => intro d K _ _ h; omega
  | succ n ih =>
    intro d K hK hd hn
    rw [f_X7_fits_57]
    by_cases hl : d < 10
    · have x0 : (9 : Int32) - nI d = nI (9 - d) := by rw [show (9 : Int32) = nI 9 from rfl, pk_sub (by omega)]
      have x1 : nI (9 - d) + (-1) = 9 - nI (d + 1) := by
        by_cases h9 : d = 9
        · subst h9; decide
        · rw [show 9 - d = (9 - (d + 1)) + 1 by omega, pk_m1, show (9 : Int32) = nI 9 from rfl, pk_sub (by omega)]
      rw [x0, if_neg (nI_pos (show 9 - d < 2 ^ 31 by omega))]
      obtain ⟨K', g1, g2⟩ := hs_rso' R hi hz hq ez eq en (9 - d) K hK
      rw [g1]
      simp only [nb_p, nb_n, hs_or0]
      have step := ih (d + 1) K' g2 (by omega) (by omega)
      have e : hs_dn (hs_Bv (hs_ho 1 M) nu z q) (d + 1) = if hs_Bv (hs_ho 1 M) nu z q (9 - d) = 0 then hs_dn (hs_Bv (hs_ho 1 M) nu z q) d else ((hs_dn (hs_Bv (hs_ho 1 M) nu z q) d).1 ||| ((1 : Int32) <<< (nI (9 - d) &&& 31)), nI (9 - d)) := rfl
      rw [e] at step
      rw [x1]
      by_cases v : hs_Bv (hs_ho 1 M) nu z q (9 - d) = 0
      · rw [if_pos v] at step ⊢
        exact step
      · rw [if_neg v] at step
        rw [if_neg v, if_neg v]
        exact step
    · have : d = 10 := by omega
      subst this
      rw [if_pos (by decide)]
      exact ⟨K, hK, rfl⟩
end HSF
section HSF0
variable {M N : nb_M}
theorem hs_ctr0 (R : hs_Rel M N) {z q : Nat} (hz : z ≤ 24) (hq : q ≤ 9) (ez : M.1 43 2 = nI z) (eq : hs_ho 1 M 0 6 = nI q) (c : Nat) : ∀ (n k : Nat) (K : nb_M), hs_Sc M K → k ≤ z → k ≤ q → (∀ j, j < k → M.1 44 j = hs_rk (hs_ho 1 M) j (nI c)) → z - k < n → ∃ K', f_X4_tellsRisks_38_1_43_3 n K (nI c) (nI k) = some (hs_Bv (hs_ho 1 M) (M.1 44) z q c, K') ∧ hs_Sc M K' := by
  intro n
  induction n with
  | zero => intro k K _ _ _ _ h; omega
  | succ n ih =>
    intro k K hK hk hkq hj hn
    have RK := R.sc hK (hs_Sd.rf N)
    have e5 : K.1 43 2 = nI z := by rw [hK.1 43 (by omega) (by omega)]; exact ez
    have e6 : K.1 1 6 = nI q := by rw [hK.1 1 (by omega) (by omega)]; exact eq
    have e7 : K.1 44 = M.1 44 := hK.1 44 (by omega) (by omega)
    rw [f_X4_tellsRisks_38_1_43_3, e5, e6, e7]
    by_cases hl : k < z
    · rw [if_neg (nI_ge hl (by omega))]
      by_cases hl2 : k < q
      · rw [if_neg (nI_ge hl2 (by omega)), if_neg (nI_in (c := k) (N := 24) (by omega) (by decide)), nI_clamp (show k < 2 ^ 31 by omega)]
        obtain ⟨K', g1, g2⟩ := hs_crk RK.1 RK.2.1 (a := k) (by omega) (nI c)
        rw [g1, hK.ho]
        simp only [nb_p]
        rw [nI_1]
        by_cases w : M.1 44 k = hs_rk (hs_ho 1 M) k (nI c)
        · rw [if_pos w]
          exact ih (k + 1) K' (hK.tr g2) (by omega) (by omega) (fun j h => by
            rcases Nat.lt_or_ge j k with y | y
            · exact hj j y
            · rw [show j = k by omega]; exact w) (by omega)
        · rw [if_neg w, hs_Bv0 (fun b => w (b.2 k hl))]
          exact ⟨K', rfl, hK.tr g2⟩
      · rw [if_pos (nI_le (by omega) (by omega)), hs_Bv0 (fun b => by have := b.1; omega)]
        exact ⟨K, rfl, hK⟩
    · have : k = z := by omega
      subst this
      rw [if_pos (nI_le (Nat.le_refl _) (by omega)), hs_Bv1 ⟨hkq, hj⟩]
      exact ⟨K, rfl, hK⟩
theorem hs_cft0 (R : hs_Rel M N) {z q : Nat} (hz : z ≤ 24) (hq : q ≤ 9) (ez : M.1 43 2 = nI z) (eq : hs_ho 1 M 0 6 = nI q) : ∀ (n c : Nat) (K : nb_M), hs_Sc M K → c ≤ 10 → 10 - c < n → ∃ K', f_X4_fitsBy_38_1_43_5 n K (hs_up (hs_Bv (hs_ho 1 M) (M.1 44) z q) c) (nI c) = some (hs_up (hs_Bv (hs_ho 1 M) (M.1 44) z q) 10, K') ∧ hs_Sc M K' := by
  intro n
  induction n with
  | zero => intro c K _ _ h; omega
  | succ n ih =>
    intro c K hK hc hn
    rw [f_X4_fitsBy_38_1_43_5]
    by_cases hl : c < 10
    · rw [if_neg (show ¬ (9 : Int32) < nI c from nI_nlt (a := 9) (by omega) (by decide))]
      have RK := R.sc hK (hs_Sd.rf N)
      obtain ⟨K', g1, g2⟩ := hs_ctr0 RK hz hq (by rw [hK.1 43 (by omega) (by omega)]; exact ez) (by rw [hK.ho]; exact eq) c nb_F 0 K (hs_Sc.rf K) (by omega) (by omega) (fun j h => by omega) (by have := hs_F; omega)
      rw [hK.ho, hK.1 44 (by omega) (by omega)] at g1
      have g1' : f_X4_tellsRisks_38_1_43 K (nI c) = _ := g1
      rw [g1']
      simp only [nb_p, nb_n]
      rw [nI_1]
      have step := ih (c + 1) K' (hK.tr g2) (by omega) (by omega)
      have e : hs_up (hs_Bv (hs_ho 1 M) (M.1 44) z q) (c + 1) = if hs_Bv (hs_ho 1 M) (M.1 44) z q c = 0 then hs_up (hs_Bv (hs_ho 1 M) (M.1 44) z q) c else hs_up (hs_Bv (hs_ho 1 M) (M.1 44) z q) c ||| ((1 : Int32) <<< (nI c &&& 31)) := rfl
      rw [e] at step
      by_cases v : hs_Bv (hs_ho 1 M) (M.1 44) z q c = 0
      · rw [if_pos v] at step ⊢
        exact step
      · rw [if_neg v] at step ⊢
        exact step
    · have : c = 10 := by omega
      subst this
      rw [if_pos (by decide)]
      exact ⟨K, rfl, hK⟩
theorem hs_fit0 (R : hs_Rel M N) (S : hs_SH (M.1 43) (M.1 44) 0 N) {t : Nat} (ht : t ≤ 1) : hs_S (if f_X2_isMissing_43 M = 0 then nb_p (f_X4_fitsBy_38_1_43 M) fun r_1 M_1 => if nI t = 0 then some (r_1, M_1) else if r_1 = 0 then nb_p (f_X6_fail M_1 2) fun r M => some (r, M) else nb_o (f_X6_lowestIn r_1) fun r => some (r, M_1) else nb_p (f_X6_fail M 2) fun r M => some (r, M)) (if nI 0 < 0 ∨ 4 ≤ (nI 0).toNatClampNeg then none else if N.1 4 (nI 0).toNatClampNeg = 0 then nb_p (f_X7_error N (-1000000002)) fun r M => some (r, M) else f_X7_fits_57 nb_F N (nI 0) (nI t) 0 (-1) 9) := by
  obtain ⟨w, z, hw, hz, hwz, e1, e2, e3, e4, e5⟩ := S
  rw [if_neg (nI_in (c := 0) (N := 4) (by decide) (by decide)), nI_clamp (show 0 < 2 ^ 31 by omega), e3]
  unfold f_X2_isMissing_43
  rw [e1]
  by_cases y : w = 0
  · subst y
    rw [if_pos (show nI 0 = 0 from rfl), if_neg hs_10, if_pos (show nI 0 = 0 from rfl)]
    exact hs_e2 R
  · have y' : ¬ nI w = 0 := hs_ne (b := 0) y (by omega) (by decide)
    rw [if_neg y', if_pos rfl, if_neg y']
    obtain ⟨q, hq, eq⟩ := hs_nq R.2.1
    obtain ⟨K, g1, g2⟩ := hs_cft0 R hz hq e2 eq nb_F 0 M (hs_Sc.rf M) (by omega) (by have := hs_F; omega)
    have g1' : f_X4_fitsBy_38_1_43 M = _ := g1
    rw [g1']
    obtain ⟨L, k1, k2⟩ := hs_rft R (i := 0) (by decide) hz hq e4 eq e5 (nI t) nb_F 0 N (hs_Sd.rf N) (by omega) (by have := hs_F; omega)
    have k2' : f_X7_fits_57 nb_F N (nI 0) (nI t) 0 (-1) 9 = _ := k2
    rw [k2']
    obtain ⟨u1, u2⟩ := hs_sets (hs_Bv01 (hs_ho 1 M) (M.1 44) z q)
    rw [u1]
    generalize hs_up (hs_Bv (hs_ho 1 M) (M.1 44) z q) 10 = set at *
    generalize (hs_dn (hs_Bv (hs_ho 1 M) (M.1 44) z q) 10).2 = least at *
    simp only [nb_p]
    have RK := R.sc g2 k1
    by_cases ht0 : nI t = 0
    · rw [if_pos ht0, if_pos ht0]; exact ⟨_, _, _, rfl, rfl, RK⟩
    · rw [if_neg ht0, if_neg ht0]
      rcases u2 with ⟨a1, a2⟩ | ⟨a1, a2, a3⟩
      · rw [if_pos a1, if_neg a2]; exact hs_e2 RK
      · rw [if_neg a1, if_pos a2, a3]; exact ⟨_, _, _, rfl, rfl, RK⟩
end HSF0
section HSF1
variable {M N : nb_M}
theorem hs_ctr1 (R : hs_Rel M N) {z q : Nat} (hz : z ≤ 24) (hq : q ≤ 9) (ez : M.1 45 2 = nI z) (eq : hs_ho 1 M 0 6 = nI q) (c : Nat) : ∀ (n k : Nat) (K : nb_M), hs_Sc M K → k ≤ z → k ≤ q → (∀ j, j < k → M.1 46 j = hs_rk (hs_ho 1 M) j (nI c)) → z - k < n → ∃ K', f_X4_tellsRisks_38_1_45_3 n K (nI c) (nI k) = some (hs_Bv (hs_ho 1 M) (M.1 46) z q c, K') ∧ hs_Sc M K' := by
  intro n
  induction n with
  | zero => intro k K _ _ _ _ h; omega
  | succ n ih =>
    intro k K hK hk hkq hj hn
    have RK := R.sc hK (hs_Sd.rf N)
    have e5 : K.1 45 2 = nI z := by rw [hK.1 45 (by omega) (by omega)]; exact ez
    have e6 : K.1 1 6 = nI q := by rw [hK.1 1 (by omega) (by omega)]; exact eq
    have e7 : K.1 46 = M.1 46 := hK.1 46 (by omega) (by omega)
    rw [f_X4_tellsRisks_38_1_45_3, e5, e6, e7]
    by_cases hl : k < z
    · rw [if_neg (nI_ge hl (by omega))]
      by_cases hl2 : k < q
      · rw [if_neg (nI_ge hl2 (by omega)), if_neg (nI_in (c := k) (N := 24) (by omega) (by decide)), nI_clamp (show k < 2 ^ 31 by omega)]
        obtain ⟨K', g1, g2⟩ := hs_crk RK.1 RK.2.1 (a := k) (by omega) (nI c)
        rw [g1, hK.ho]
        simp only [nb_p]
        rw [nI_1]
        by_cases w : M.1 46 k = hs_rk (hs_ho 1 M) k (nI c)
        · rw [if_pos w]
          exact ih (k + 1) K' (hK.tr g2) (by omega) (by omega) (fun j h => by
            rcases Nat.lt_or_ge j k with y | y
            · exact hj j y
            · rw [show j = k by omega]; exact w) (by omega)
        · rw [if_neg w, hs_Bv0 (fun b => w (b.2 k hl))]
          exact ⟨K', rfl, hK.tr g2⟩
      · rw [if_pos (nI_le (by omega) (by omega)), hs_Bv0 (fun b => by have := b.1; omega)]
        exact ⟨K, rfl, hK⟩
    · have : k = z := by omega
      subst this
      rw [if_pos (nI_le (Nat.le_refl _) (by omega)), hs_Bv1 ⟨hkq, hj⟩]
      exact ⟨K, rfl, hK⟩
theorem hs_cft1 (R : hs_Rel M N) {z q : Nat} (hz : z ≤ 24) (hq : q ≤ 9) (ez : M.1 45 2 = nI z) (eq : hs_ho 1 M 0 6 = nI q) : ∀ (n c : Nat) (K : nb_M), hs_Sc M K → c ≤ 10 → 10 - c < n → ∃ K', f_X4_fitsBy_38_1_45_5 n K (hs_up (hs_Bv (hs_ho 1 M) (M.1 46) z q) c) (nI c) = some (hs_up (hs_Bv (hs_ho 1 M) (M.1 46) z q) 10, K') ∧ hs_Sc M K' := by
  intro n
  induction n with
  | zero => intro c K _ _ h; omega
  | succ n ih =>
    intro c K hK hc hn
    rw [f_X4_fitsBy_38_1_45_5]
    by_cases hl : c < 10
    · rw [if_neg (show ¬ (9 : Int32) < nI c from nI_nlt (a := 9) (by omega) (by decide))]
      have RK := R.sc hK (hs_Sd.rf N)
      obtain ⟨K', g1, g2⟩ := hs_ctr1 RK hz hq (by rw [hK.1 45 (by omega) (by omega)]; exact ez) (by rw [hK.ho]; exact eq) c nb_F 0 K (hs_Sc.rf K) (by omega) (by omega) (fun j h => by omega) (by have := hs_F; omega)
      rw [hK.ho, hK.1 46 (by omega) (by omega)] at g1
      have g1' : f_X4_tellsRisks_38_1_45 K (nI c) = _ := g1
      rw [g1']
      simp only [nb_p, nb_n]
      rw [nI_1]
      have step := ih (c + 1) K' (hK.tr g2) (by omega) (by omega)
      have e : hs_up (hs_Bv (hs_ho 1 M) (M.1 46) z q) (c + 1) = if hs_Bv (hs_ho 1 M) (M.1 46) z q c = 0 then hs_up (hs_Bv (hs_ho 1 M) (M.1 46) z q) c else hs_up (hs_Bv (hs_ho 1 M) (M.1 46) z q) c ||| ((1 : Int32) <<< (nI c &&& 31)) := rfl
      rw [e] at step
      by_cases v : hs_Bv (hs_ho 1 M) (M.1 46) z q c = 0
      · rw [if_pos v] at step ⊢
        exact step
      · rw [if_neg v] at step ⊢
        exact step
    · have : c = 10 := by omega
      subst this
      rw [if_pos (by decide)]
      exact ⟨K, rfl, hK⟩
theorem hs_fit1 (R : hs_Rel M N) (S : hs_SH (M.1 45) (M.1 46) 1 N) {t : Nat} (ht : t ≤ 1) : hs_S (if f_X2_isMissing_45 M = 0 then nb_p (f_X4_fitsBy_38_1_45 M) fun r_1 M_1 => if nI t = 0 then some (r_1, M_1) else if r_1 = 0 then nb_p (f_X6_fail M_1 2) fun r M => some (r, M) else nb_o (f_X6_lowestIn r_1) fun r => some (r, M_1) else nb_p (f_X6_fail M 2) fun r M => some (r, M)) (if nI 1 < 0 ∨ 4 ≤ (nI 1).toNatClampNeg then none else if N.1 4 (nI 1).toNatClampNeg = 0 then nb_p (f_X7_error N (-1000000002)) fun r M => some (r, M) else f_X7_fits_57 nb_F N (nI 1) (nI t) 0 (-1) 9) := by
  obtain ⟨w, z, hw, hz, hwz, e1, e2, e3, e4, e5⟩ := S
  rw [if_neg (nI_in (c := 1) (N := 4) (by decide) (by decide)), nI_clamp (show 1 < 2 ^ 31 by omega), e3]
  unfold f_X2_isMissing_45
  rw [e1]
  by_cases y : w = 0
  · subst y
    rw [if_pos (show nI 0 = 0 from rfl), if_neg hs_10, if_pos (show nI 0 = 0 from rfl)]
    exact hs_e2 R
  · have y' : ¬ nI w = 0 := hs_ne (b := 0) y (by omega) (by decide)
    rw [if_neg y', if_pos rfl, if_neg y']
    obtain ⟨q, hq, eq⟩ := hs_nq R.2.1
    obtain ⟨K, g1, g2⟩ := hs_cft1 R hz hq e2 eq nb_F 0 M (hs_Sc.rf M) (by omega) (by have := hs_F; omega)
    have g1' : f_X4_fitsBy_38_1_45 M = _ := g1
    rw [g1']
    obtain ⟨L, k1, k2⟩ := hs_rft R (i := 1) (by decide) hz hq e4 eq e5 (nI t) nb_F 0 N (hs_Sd.rf N) (by omega) (by have := hs_F; omega)
    have k2' : f_X7_fits_57 nb_F N (nI 1) (nI t) 0 (-1) 9 = _ := k2
    rw [k2']
    obtain ⟨u1, u2⟩ := hs_sets (hs_Bv01 (hs_ho 1 M) (M.1 46) z q)
    rw [u1]
    generalize hs_up (hs_Bv (hs_ho 1 M) (M.1 46) z q) 10 = set at *
    generalize (hs_dn (hs_Bv (hs_ho 1 M) (M.1 46) z q) 10).2 = least at *
    simp only [nb_p]
    have RK := R.sc g2 k1
    by_cases ht0 : nI t = 0
    · rw [if_pos ht0, if_pos ht0]; exact ⟨_, _, _, rfl, rfl, RK⟩
    · rw [if_neg ht0, if_neg ht0]
      rcases u2 with ⟨a1, a2⟩ | ⟨a1, a2, a3⟩
      · rw [if_pos a1, if_neg a2]; exact hs_e2 RK
      · rw [if_neg a1, if_pos a2, a3]; exact ⟨_, _, _, rfl, rfl, RK⟩
end HSF1
section HSF2
variable {M N : nb_M}
theorem hs_ctr2 (R : hs_Rel M N) {z q : Nat} (hz : z ≤ 24) (hq : q ≤ 9) (ez : M.1 47 2 = nI z) (eq : hs_ho 1 M 0 6 = nI q) (c : Nat) : ∀ (n k : Nat) (K : nb_M), hs_Sc M K → k ≤ z → k ≤ q → (∀ j, j < k → M.1 48 j = hs_rk (hs_ho 1 M) j (nI c)) → z - k < n → ∃ K', f_X4_tellsRisks_38_1_47_3 n K (nI c) (nI k) = some (hs_Bv (hs_ho 1 M) (M.1 48) z q c, K') ∧ hs_Sc M K' := by
  intro n
  induction n with
  | zero => intro k K _ _ _ _ h; omega
  | succ n ih =>
    intro k K hK hk hkq hj hn
    have RK := R.sc hK (hs_Sd.rf N)
    have e5 : K.1 47 2 = nI z := by rw [hK.1 47 (by omega) (by omega)]; exact ez
    have e6 : K.1 1 6 = nI q := by rw [hK.1 1 (by omega) (by omega)]; exact eq
    have e7 : K.1 48 = M.1 48 := hK.1 48 (by omega) (by omega)
    rw [f_X4_tellsRisks_38_1_47_3, e5, e6, e7]
    by_cases hl : k < z
    · rw [if_neg (nI_ge hl (by omega))]
      by_cases hl2 : k < q
      · rw [if_neg (nI_ge hl2 (by omega)), if_neg (nI_in (c := k) (N := 24) (by omega) (by decide)), nI_clamp (show k < 2 ^ 31 by omega)]
        obtain ⟨K', g1, g2⟩ := hs_crk RK.1 RK.2.1 (a := k) (by omega) (nI c)
        rw [g1, hK.ho]
        simp only [nb_p]
        rw [nI_1]
        by_cases w : M.1 48 k = hs_rk (hs_ho 1 M) k (nI c)
        · rw [if_pos w]
          exact ih (k + 1) K' (hK.tr g2) (by omega) (by omega) (fun j h => by
            rcases Nat.lt_or_ge j k with y | y
            · exact hj j y
            · rw [show j = k by omega]; exact w) (by omega)
        · rw [if_neg w, hs_Bv0 (fun b => w (b.2 k hl))]
          exact ⟨K', rfl, hK.tr g2⟩
      · rw [if_pos (nI_le (by omega) (by omega)), hs_Bv0 (fun b => by have := b.1; omega)]
        exact ⟨K, rfl, hK⟩
    · have : k = z := by omega
      subst this
      rw [if_pos (nI_le (Nat.le_refl _) (by omega)), hs_Bv1 ⟨hkq, hj⟩]
      exact ⟨K, rfl, hK⟩
theorem hs_cft2 (R : hs_Rel M N) {z q : Nat} (hz : z ≤ 24) (hq : q ≤ 9) (ez : M.1 47 2 = nI z) (eq : hs_ho 1 M 0 6 = nI q) : ∀ (n c : Nat) (K : nb_M), hs_Sc M K → c ≤ 10 → 10 - c < n → ∃ K', f_X4_fitsBy_38_1_47_5 n K (hs_up (hs_Bv (hs_ho 1 M) (M.1 48) z q) c) (nI c) = some (hs_up (hs_Bv (hs_ho 1 M) (M.1 48) z q) 10, K') ∧ hs_Sc M K' := by
  intro n
  induction n with
  | zero => intro c K _ _ h; omega
  | succ n ih =>
    intro c K hK hc hn
    rw [f_X4_fitsBy_38_1_47_5]
    by_cases hl : c < 10
    · rw [if_neg (show ¬ (9 : Int32) < nI c from nI_nlt (a := 9) (by omega) (by decide))]
      have RK := R.sc hK (hs_Sd.rf N)
      obtain ⟨K', g1, g2⟩ := hs_ctr2 RK hz hq (by rw [hK.1 47 (by omega) (by omega)]; exact ez) (by rw [hK.ho]; exact eq) c nb_F 0 K (hs_Sc.rf K) (by omega) (by omega) (fun j h => by omega) (by have := hs_F; omega)
      rw [hK.ho, hK.1 48 (by omega) (by omega)] at g1
      have g1' : f_X4_tellsRisks_38_1_47 K (nI c) = _ := g1
      rw [g1']
      simp only [nb_p, nb_n]
      rw [nI_1]
      have step := ih (c + 1) K' (hK.tr g2) (by omega) (by omega)
      have e : hs_up (hs_Bv (hs_ho 1 M) (M.1 48) z q) (c + 1) = if hs_Bv (hs_ho 1 M) (M.1 48) z q c = 0 then hs_up (hs_Bv (hs_ho 1 M) (M.1 48) z q) c else hs_up (hs_Bv (hs_ho 1 M) (M.1 48) z q) c ||| ((1 : Int32) <<< (nI c &&& 31)) := rfl
      rw [e] at step
      by_cases v : hs_Bv (hs_ho 1 M) (M.1 48) z q c = 0
      · rw [if_pos v] at step ⊢
        exact step
      · rw [if_neg v] at step ⊢
        exact step
    · have : c = 10 := by omega
      subst this
      rw [if_pos (by decide)]
      exact ⟨K, rfl, hK⟩
theorem hs_fit2 (R : hs_Rel M N) (S : hs_SH (M.1 47) (M.1 48) 2 N) {t : Nat} (ht : t ≤ 1) : hs_S (if f_X2_isMissing_47 M = 0 then nb_p (f_X4_fitsBy_38_1_47 M) fun r_1 M_1 => if nI t = 0 then some (r_1, M_1) else if r_1 = 0 then nb_p (f_X6_fail M_1 2) fun r M => some (r, M) else nb_o (f_X6_lowestIn r_1) fun r => some (r, M_1) else nb_p (f_X6_fail M 2) fun r M => some (r, M)) (if nI 2 < 0 ∨ 4 ≤ (nI 2).toNatClampNeg then none else if N.1 4 (nI 2).toNatClampNeg = 0 then nb_p (f_X7_error N (-1000000002)) fun r M => some (r, M) else f_X7_fits_57 nb_F N (nI 2) (nI t) 0 (-1) 9) := by
  obtain ⟨w, z, hw, hz, hwz, e1, e2, e3, e4, e5⟩ := S
  rw [if_neg (nI_in (c := 2) (N := 4) (by decide) (by decide)), nI_clamp (show 2 < 2 ^ 31 by omega), e3]
  unfold f_X2_isMissing_47
  rw [e1]
  by_cases y : w = 0
  · subst y
    rw [if_pos (show nI 0 = 0 from rfl), if_neg hs_10, if_pos (show nI 0 = 0 from rfl)]
    exact hs_e2 R
  · have y' : ¬ nI w = 0 := hs_ne (b := 0) y (by omega) (by decide)
    rw [if_neg y', if_pos rfl, if_neg y']
    obtain ⟨q, hq, eq⟩ := hs_nq R.2.1
    obtain ⟨K, g1, g2⟩ := hs_cft2 R hz hq e2 eq nb_F 0 M (hs_Sc.rf M) (by omega) (by have := hs_F; omega)
    have g1' : f_X4_fitsBy_38_1_47 M = _ := g1
    rw [g1']
    obtain ⟨L, k1, k2⟩ := hs_rft R (i := 2) (by decide) hz hq e4 eq e5 (nI t) nb_F 0 N (hs_Sd.rf N) (by omega) (by have := hs_F; omega)
    have k2' : f_X7_fits_57 nb_F N (nI 2) (nI t) 0 (-1) 9 = _ := k2
    rw [k2']
    obtain ⟨u1, u2⟩ := hs_sets (hs_Bv01 (hs_ho 1 M) (M.1 48) z q)
    rw [u1]
    generalize hs_up (hs_Bv (hs_ho 1 M) (M.1 48) z q) 10 = set at *
    generalize (hs_dn (hs_Bv (hs_ho 1 M) (M.1 48) z q) 10).2 = least at *
    simp only [nb_p]
    have RK := R.sc g2 k1
    by_cases ht0 : nI t = 0
    · rw [if_pos ht0, if_pos ht0]; exact ⟨_, _, _, rfl, rfl, RK⟩
    · rw [if_neg ht0, if_neg ht0]
      rcases u2 with ⟨a1, a2⟩ | ⟨a1, a2, a3⟩
      · rw [if_pos a1, if_neg a2]; exact hs_e2 RK
      · rw [if_neg a1, if_pos a2, a3]; exact ⟨_, _, _, rfl, rfl, RK⟩
end HSF2
section HSF3
variable {M N : nb_M}
theorem hs_ctr3 (R : hs_Rel M N) {z q : Nat} (hz : z ≤ 24) (hq : q ≤ 9) (ez : M.1 49 2 = nI z) (eq : hs_ho 1 M 0 6 = nI q) (c : Nat) : ∀ (n k : Nat) (K : nb_M), hs_Sc M K → k ≤ z → k ≤ q → (∀ j, j < k → M.1 50 j = hs_rk (hs_ho 1 M) j (nI c)) → z - k < n → ∃ K', f_X4_tellsRisks_38_1_49_3 n K (nI c) (nI k) = some (hs_Bv (hs_ho 1 M) (M.1 50) z q c, K') ∧ hs_Sc M K' := by
  intro n
  induction n with
  | zero => intro k K _ _ _ _ h; omega
  | succ n ih =>
    intro k K hK hk hkq hj hn
    have RK := R.sc hK (hs_Sd.rf N)
    have e5 : K.1 49 2 = nI z := by rw [hK.1 49 (by omega) (by omega)]; exact ez
    have e6 : K.1 1 6 = nI q := by rw [hK.1 1 (by omega) (by omega)]; exact eq
    have e7 : K.1 50 = M.1 50 := hK.1 50 (by omega) (by omega)
    rw [f_X4_tellsRisks_38_1_49_3, e5, e6, e7]
    by_cases hl : k < z
    · rw [if_neg (nI_ge hl (by omega))]
      by_cases hl2 : k < q
      · rw [if_neg (nI_ge hl2 (by omega)), if_neg (nI_in (c := k) (N := 24) (by omega) (by decide)), nI_clamp (show k < 2 ^ 31 by omega)]
        obtain ⟨K', g1, g2⟩ := hs_crk RK.1 RK.2.1 (a := k) (by omega) (nI c)
        rw [g1, hK.ho]
        simp only [nb_p]
        rw [nI_1]
        by_cases w : M.1 50 k = hs_rk (hs_ho 1 M) k (nI c)
        · rw [if_pos w]
          exact ih (k + 1) K' (hK.tr g2) (by omega) (by omega) (fun j h => by
            rcases Nat.lt_or_ge j k with y | y
            · exact hj j y
            · rw [show j = k by omega]; exact w) (by omega)
        · rw [if_neg w, hs_Bv0 (fun b => w (b.2 k hl))]
          exact ⟨K', rfl, hK.tr g2⟩
      · rw [if_pos (nI_le (by omega) (by omega)), hs_Bv0 (fun b => by have := b.1; omega)]
        exact ⟨K, rfl, hK⟩
    · have : k = z := by omega
      subst this
      rw [if_pos (nI_le (Nat.le_refl _) (by omega)), hs_Bv1 ⟨hkq, hj⟩]
      exact ⟨K, rfl, hK⟩
theorem hs_cft3 (R : hs_Rel M N) {z q : Nat} (hz : z ≤ 24) (hq : q ≤ 9) (ez : M.1 49 2 = nI z) (eq : hs_ho 1 M 0 6 = nI q) : ∀ (n c : Nat) (K : nb_M), hs_Sc M K → c ≤ 10 → 10 - c < n → ∃ K', f_X4_fitsBy_38_1_49_5 n K (hs_up (hs_Bv (hs_ho 1 M) (M.1 50) z q) c) (nI c) = some (hs_up (hs_Bv (hs_ho 1 M) (M.1 50) z q) 10, K') ∧ hs_Sc M K' := by
  intro n
  induction n with
  | zero => intro c K _ _ h; omega
  | succ n ih =>
    intro c K hK hc hn
    rw [f_X4_fitsBy_38_1_49_5]
    by_cases hl : c < 10
    · rw [if_neg (show ¬ (9 : Int32) < nI c from nI_nlt (a := 9) (by omega) (by decide))]
      have RK := R.sc hK (hs_Sd.rf N)
      obtain ⟨K', g1, g2⟩ := hs_ctr3 RK hz hq (by rw [hK.1 49 (by omega) (by omega)]; exact ez) (by rw [hK.ho]; exact eq) c nb_F 0 K (hs_Sc.rf K) (by omega) (by omega) (fun j h => by omega) (by have := hs_F; omega)
      rw [hK.ho, hK.1 50 (by omega) (by omega)] at g1
      have g1' : f_X4_tellsRisks_38_1_49 K (nI c) = _ := g1
      rw [g1']
      simp only [nb_p, nb_n]
      rw [nI_1]
      have step := ih (c + 1) K' (hK.tr g2) (by omega) (by omega)
      have e : hs_up (hs_Bv (hs_ho 1 M) (M.1 50) z q) (c + 1) = if hs_Bv (hs_ho 1 M) (M.1 50) z q c = 0 then hs_up (hs_Bv (hs_ho 1 M) (M.1 50) z q) c else hs_up (hs_Bv (hs_ho 1 M) (M.1 50) z q) c ||| ((1 : Int32) <<< (nI c &&& 31)) := rfl
      rw [e] at step
      by_cases v : hs_Bv (hs_ho 1 M) (M.1 50) z q c = 0
      · rw [if_pos v] at step ⊢
        exact step
      · rw [if_neg v] at step ⊢
        exact step
    · have : c = 10 := by omega
      subst this
      rw [if_pos (by decide)]
      exact ⟨K, rfl, hK⟩
theorem hs_fit3 (R : hs_Rel M N) (S : hs_SH (M.1 49) (M.1 50) 3 N) {t : Nat} (ht : t ≤ 1) : hs_S (if f_X2_isMissing_49 M = 0 then nb_p (f_X4_fitsBy_38_1_49 M) fun r_1 M_1 => if nI t = 0 then some (r_1, M_1) else if r_1 = 0 then nb_p (f_X6_fail M_1 2) fun r M => some (r, M) else nb_o (f_X6_lowestIn r_1) fun r => some (r, M_1) else nb_p (f_X6_fail M 2) fun r M => some (r, M)) (if nI 3 < 0 ∨ 4 ≤ (nI 3).toNatClampNeg then none else if N.1 4 (nI 3).toNatClampNeg = 0 then nb_p (f_X7_error N (-1000000002)) fun r M => some (r, M) else f_X7_fits_57 nb_F N (nI 3) (nI t) 0 (-1) 9) := by
  obtain ⟨w, z, hw, hz, hwz, e1, e2, e3, e4, e5⟩ := S
  rw [if_neg (nI_in (c := 3) (N := 4) (by decide) (by decide)), nI_clamp (show 3 < 2 ^ 31 by omega), e3]
  unfold f_X2_isMissing_49
  rw [e1]
  by_cases y : w = 0
  · subst y
    rw [if_pos (show nI 0 = 0 from rfl), if_neg hs_10, if_pos (show nI 0 = 0 from rfl)]
    exact hs_e2 R
  · have y' : ¬ nI w = 0 := hs_ne (b := 0) y (by omega) (by decide)
    rw [if_neg y', if_pos rfl, if_neg y']
    obtain ⟨q, hq, eq⟩ := hs_nq R.2.1
    obtain ⟨K, g1, g2⟩ := hs_cft3 R hz hq e2 eq nb_F 0 M (hs_Sc.rf M) (by omega) (by have := hs_F; omega)
    have g1' : f_X4_fitsBy_38_1_49 M = _ := g1
    rw [g1']
    obtain ⟨L, k1, k2⟩ := hs_rft R (i := 3) (by decide) hz hq e4 eq e5 (nI t) nb_F 0 N (hs_Sd.rf N) (by omega) (by have := hs_F; omega)
    have k2' : f_X7_fits_57 nb_F N (nI 3) (nI t) 0 (-1) 9 = _ := k2
    rw [k2']
    obtain ⟨u1, u2⟩ := hs_sets (hs_Bv01 (hs_ho 1 M) (M.1 50) z q)
    rw [u1]
    generalize hs_up (hs_Bv (hs_ho 1 M) (M.1 50) z q) 10 = set at *
    generalize (hs_dn (hs_Bv (hs_ho 1 M) (M.1 50) z q) 10).2 = least at *
    simp only [nb_p]
    have RK := R.sc g2 k1
    by_cases ht0 : nI t = 0
    · rw [if_pos ht0, if_pos ht0]; exact ⟨_, _, _, rfl, rfl, RK⟩
    · rw [if_neg ht0, if_neg ht0]
      rcases u2 with ⟨a1, a2⟩ | ⟨a1, a2, a3⟩
      · rw [if_pos a1, if_neg a2]; exact hs_e2 RK
      · rw [if_neg a1, if_pos a2, a3]; exact ⟨_, _, _, rfl, rfl, RK⟩
end HSF3
section HSN
variable {M N : nb_M}
theorem s_fits (R : hs_Rel M N) (p0 p1 p2 : Int32) : hs_S (f_X6_fits M p0 p1 p2) (f_X7_fits N p0 p1 p2) := by
  unfold f_X6_fits f_X7_fits f_X6_isSheet f_X7_isSheet
  rcases hs_wi p0 (b := 3) (by decide) (B := 3) rfl with ⟨c1, d1, i, hi, rfl⟩ | ⟨c1, d1⟩
  · rw [c1, d1, if_neg hs_10, if_neg hs_10]
    rcases hs_per R p1 with ⟨c2, d2, -⟩ | ⟨c2, d2⟩
    · rw [c2, d2, if_neg hs_10, if_neg hs_10]
      rcases hs_wi p2 (b := 1) (by decide) (B := 1) rfl with ⟨c3, d3, t, ht, rfl⟩ | ⟨c3, d3⟩
      · rw [c3, d3, if_neg hs_10, if_neg hs_10]
        obtain ⟨s0, s1, s2, s3⟩ := R.2.2.2.2.2.2
        have hi4 : i = 0 ∨ i = 1 ∨ i = 2 ∨ i = 3 := by omega
        rcases hi4 with rfl | rfl | rfl | rfl
        · rw [if_pos (show nI 0 = 0 from rfl)]; exact hs_fit0 R s0 ht
        · rw [if_neg (show ¬ nI 1 = 0 from by decide), if_pos (show nI 1 = 1 from rfl)]; exact hs_fit1 R s1 ht
        · rw [if_neg (show ¬ nI 2 = 0 from by decide), if_neg (show ¬ nI 2 = 1 from by decide), if_pos (show nI 2 = 2 from rfl)]; exact hs_fit2 R s2 ht
        · rw [if_neg (show ¬ nI 3 = 0 from by decide), if_neg (show ¬ nI 3 = 1 from by decide), if_neg (show ¬ nI 3 = 2 from by decide), if_pos (show nI 3 = 3 from rfl)]; exact hs_fit3 R s3 ht
      · rw [c3, d3, if_pos rfl, if_pos rfl]; exact hs_e1 R
    · rw [c2, d2, if_pos rfl, if_pos rfl]; exact hs_e1 R
  · rw [c1, d1, if_pos rfl, if_pos rfl]; exact hs_e1 R
end HSN
