/-! the calls: tape, texts' ends, days, who is safest, what is left -/
theorem hs_shr8 (b : BitVec 64) (n : Nat) (hn : n ≤ 56) : (b >>> n) &&& 255#64 = (b.sshiftRight n) &&& 255#64 := by
  apply BitVec.eq_of_getLsbD_eq
  intro i hi
  have e : (255#64).getLsbD i = decide (i < 8) := by
    rw [BitVec.getLsbD_ofNat, show (255 : Nat) = 2 ^ 8 - 1 from rfl, Nat.testBit_two_pow_sub_one]
    simp [hi]
  rw [BitVec.getLsbD_and, BitVec.getLsbD_and, e, BitVec.getLsbD_ushiftRight, BitVec.getLsbD_sshiftRight]
  by_cases h8 : i < 8
  · have h1 : ¬ 64 ≤ i := by omega
    have h2 : n + i < 64 := by omega
    simp [h1, h2]
  · simp [h8]
theorem hs_byte (x : Int64) (k : Nat) (hk : k < 8) : ((x.toUInt64 >>> ((8 * nI k).toInt64.toUInt64 &&& Int64.toUInt64 63)).toInt64 &&& (255 : Int64)) = ((x >>> ((8 * nI k).toInt64 &&& 63)) &&& (255 : Int64)) := by
  apply Int64.toBitVec_inj.mp
  have key : ∀ n : Nat, n ≤ 56 → (x.toBitVec >>> n) &&& 255#64 = (x.toBitVec.sshiftRight n) &&& 255#64 := fun n hn => hs_shr8 _ n hn
  match k, hk with
  | 0, _ => exact key 0 (by decide)
  | 1, _ => exact key 8 (by decide)
  | 2, _ => exact key 16 (by decide)
  | 3, _ => exact key 24 (by decide)
  | 4, _ => exact key 32 (by decide)
  | 5, _ => exact key 40 (by decide)
  | 6, _ => exact key 48 (by decide)
  | 7, _ => exact key 56 (by decide)
section HSM
theorem hs_feed (x : Int64) {m : Nat} (hm : m ≤ 8) : ∀ (n i t : Nat) (M N : nb_M), hs_Rel M N → M.1 1 13 = nI t → i ≤ m → t + (m - i) ≤ 60 → m - i < n → hs_S (f_X0_tapeBytes_3 n M x (nI m) (nI i)) (f_X7_feed_40 n N x (nI m) (nI i)) := by
  intro n
  induction n with
  | zero => intro i t M N _ _ _ _ h; omega
  | succ n ih =>
    intro i t M N R et hi ht hn
    have er : N.1 1 4 = nI t := (hs_r4 R.1).trans et
    rw [f_X0_tapeBytes_3, f_X7_feed_40, hs_c4, et, er]
    by_cases hl : i < m
    · have x0 : (57 : Int32) + nI t = nI (57 + t) := by rw [show (57 : Int32) = nI 57 from rfl, nI_add]
      rw [if_neg (nI_ge hl (by omega)), if_neg (nI_ge hl (by omega)), if_neg (show ¬ (60 : Int32) ≤ nI t from nI_ge (b := 60) (by omega) (by decide)), if_neg (nI_in (c := t) (N := 60) (by omega) (by decide)), x0, if_neg (nI_in (c := 57 + t) (N := 383) (by omega) (by decide)), nI_clamp (show t < 2 ^ 31 by omega), nI_clamp (show 57 + t < 2 ^ 31 by omega), hs_byte x i (by omega), nI_1]
      generalize ((x >>> ((8 * nI i).toInt64 &&& 63)) &&& (255 : Int64)).toInt32 = b
      simp only [nb_n]
      have e1 : (nb_i M 10 t b).1 1 13 = nI t := et
      have e2 : (nb_i N 1 (57 + t) b).1 1 4 = nI t := by
        show upd (N.1 1) (57 + t) b 4 = _
        rw [hs_upd_n (by omega), er]
      rw [e1, e2, nI_1]
      refine ih (i + 1) (t + 1) _ _ ?_ rfl (by omega) (by omega) (by omega)
      refine R.house ((hs_Oc.i (by omega) (by omega)).tr (hs_Oc.i (by omega) (by omega))) (hs_Od.i.tr hs_Od.i) ?_ ?_
      · rw [hs_ho2 (k1 := 9) (k2 := 0) rfl rfl (by decide) (by decide)]
        exact (R.1.s9 (by omega) _).o13 _
      · rw [hs_ho2 (k1 := 9) (k2 := 0) rfl rfl (by decide) (by decide)]
        refine hs_HI.s ?_ (by simp [hs_bd]; omega) (by decide) (by simp)
        refine R.2.1.set b (fun hv => ?_) (by decide) (by simp)
        unfold hs_VB at hv
        omega
    · have : i = m := by omega
      subst this
      rw [if_pos (nI_le (Nat.le_refl _) (by omega)), if_pos (nI_le (Nat.le_refl _) (by omega))]
      exact ⟨_, _, _, rfl, rfl, R⟩
variable {M N : nb_M}
theorem s_feed (R : hs_Rel M N) (p0 : Int64) (p1 : Int32) : hs_S (f_X6_feed M p0 p1) (f_X7_feed N p0 p1) := by
  unfold f_X6_feed f_X7_feed
  obtain ⟨t, ht, et⟩ := R.2.1.at (k := 0) (j := 13) ⟨by unfold hs_V; omega, by omega, by omega⟩
  have ht : t ≤ 60 := by simpa [hs_bd] using ht
  have et' : M.1 1 13 = nI t := et
  have er : N.1 1 4 = nI t := (hs_r4 R.1).trans et
  by_cases h1 : p1 < 1
  · have c : f_X7_in p1 1 8 = 0 := by rw [hs_in]; exact if_pos (Or.inl h1)
    rw [if_pos h1, c, if_pos rfl]; exact hs_e1 R
  · rw [if_neg h1]
    by_cases h2 : p1 ≤ 8
    · have c : f_X7_in p1 1 8 = 1 := by rw [hs_in]; exact if_neg (fun w => w.elim h1 (fun w => absurd h2 (Int32.not_le.mpr w)))
      rw [if_pos h2, c, if_neg hs_10]
      obtain ⟨m, hm, e⟩ := nI_of2 (x := p1) (M := 8) (n := 8) (by decide) (fun w => h1 (Int32.lt_trans w (by decide))) h2
      subst e
      rw [hs_c4, et', er]
      have x0 : (60 : Int32) - nI t = nI (60 - t) := by rw [show (60 : Int32) = nI 60 from rfl, pk_sub ht]
      rw [x0, nI_add]
      by_cases h3 : t + m ≤ 60
      · rw [if_pos (nI_le (a := m) (b := 60 - t) (by omega) (by omega)), if_pos (show nI (t + m) ≤ (60 : Int32) from nI_le (b := 60) h3 (by decide))]
        have := hs_feed p0 hm nb_F 0 t M N R et' (by omega) (by omega) (by have := hs_F; omega)
        obtain ⟨v, M', N', g1, g2, g3⟩ := this
        have g1' : f_X0_tapeBytes M p0 (nI m) = some (v, M') := g1
        have g2' : f_X7_feed_40 nb_F N p0 (nI m) 0 = some (v, N') := g2
        rw [g1', g2']
        exact ⟨_, _, _, rfl, rfl, g3⟩
      · rw [if_neg (nI_ge (a := 60 - t) (b := m) (by omega) (by omega)), if_neg (show ¬ nI (t + m) ≤ (60 : Int32) from nI_ge (a := 60) (by omega) (by omega))]
        exact hs_e4 R
    · have c : f_X7_in p1 1 8 = 0 := by rw [hs_in]; exact if_pos (Or.inr (Int32.not_le.mp h2))
      rw [if_neg h2, c, if_pos rfl]; exact hs_e1 R
theorem s_untell (R : hs_Rel M N) (p0 : Int32) : hs_S (f_X6_untell M p0) (f_X7_untell N p0) := by
  unfold f_X6_untell f_X7_untell
  rcases hs_wi p0 (b := 1) (by decide) (B := 1) rfl with ⟨c1, d1, u, hu, rfl⟩ | ⟨c1, d1⟩
  · rw [c1, d1, if_neg hs_10, if_neg hs_10]
    have x0 : ∀ u, u ≤ 1 → (141 : Int32) + ((121 : Int32) * nI u) = nI (141 + 121 * u) := fun u _ => by rw [show (141 : Int32) = nI 141 from rfl, show (121 : Int32) = nI 121 from rfl, pk_mul, nI_add]
    rw [x0 u hu, hs_becomes (by omega)]
    obtain ⟨H, I⟩ := (⟨R.1, R.2.1⟩ : hs_HH (hs_ho 1 M) (N.1 1) ∧ hs_HI (hs_ho 1 M))
    have bitf : ∀ (x : Int32) (a b : Int32 × nb_M), True → True := fun _ _ _ _ => trivial
    have bit2 : ∀ n : Int32, f_X6_bit (if n ≤ 0 then 0 else 1) = if n ≤ 0 then 0 else 1 := fun n => by split <;> rfl
    have zero : ∀ {n : Int32} {s r : Nat → Int32} {q : Nat}, hs_HT n s r q → hs_HT 0 s (upd r q 0) q := fun {n s r q} _ => ⟨0, by omega, rfl, hs_upd_s, fun j hj => by omega, fun _ => 0, rfl, fun j hj => by omega⟩
    match u, hu with
    | 0, _ =>
      obtain ⟨k, hk, e1, e2, -⟩ := H.2.1
      have e1' : M.1 12 1 = N.1 1 141 := e1.trans e2.symm
      rw [if_pos (show nI 0 = 0 from rfl)]
      unfold f_X3_isThere_12 f_X3_forget_12
      simp only [nb_n, nb_p, bit2]
      rw [e1']
      have rel : hs_Rel (nb_i M 12 1 0) (nb_i N 1 (141 + 121 * 0) 0) := by
        refine R.house (hs_Oc.i (by omega) (by omega)) hs_Od.i ?_ ?_
        · rw [hs_ho1 (k := 11) rfl (by decide) (by decide) (by decide)]
          refine ⟨fun k j hv => ?_, zero H.2.1, ?_⟩
          · have hlt := hs_ps_lt hv
            show upd (N.1 1) 141 0 _ = _
            rw [hs_upd_n (by omega), H.1 k j hv]
            have : k ≠ 11 := by unfold hs_V at hv; omega
            simp [hs_u, this]
          · exact H.2.2.keep (fun j _ => hs_upd_n (by omega))
        · rw [hs_ho1 (k := 11) rfl (by decide) (by decide) (by decide)]
          exact I.set 0 (fun hv => by unfold hs_VB at hv; omega) (by decide) (by simp)
      by_cases z : N.1 1 141 ≤ 0
      · rw [if_pos z, if_pos z]; exact ⟨_, _, _, rfl, rfl, rel⟩
      · rw [if_neg z, if_neg z]; exact ⟨_, _, _, rfl, rfl, rel⟩
    | 1, _ =>
      obtain ⟨k, hk, e1, e2, -⟩ := H.2.2
      have e1' : M.1 15 1 = N.1 1 262 := e1.trans e2.symm
      rw [if_neg (show ¬ nI 1 = 0 from hs_10), if_pos (show nI 1 = 1 from rfl)]
      unfold f_X3_isThere_15 f_X3_forget_15
      simp only [nb_n, nb_p, bit2]
      rw [e1']
      have rel : hs_Rel (nb_i M 15 1 0) (nb_i N 1 (141 + 121 * 1) 0) := by
        refine R.house (hs_Oc.i (by omega) (by omega)) hs_Od.i ?_ ?_
        · rw [hs_ho1 (k := 14) rfl (by decide) (by decide) (by decide)]
          refine ⟨fun k j hv => ?_, ?_, zero H.2.2⟩
          · have hlt := hs_ps_lt hv
            show upd (N.1 1) 262 0 _ = _
            rw [hs_upd_n (by omega), H.1 k j hv]
            have : k ≠ 14 := by unfold hs_V at hv; omega
            simp [hs_u, this]
          · exact H.2.1.keep (fun j _ => hs_upd_n (by omega))
        · rw [hs_ho1 (k := 14) rfl (by decide) (by decide) (by decide)]
          exact I.set 0 (fun hv => by unfold hs_VB at hv; omega) (by decide) (by simp)
      by_cases z : N.1 1 262 ≤ 0
      · rw [if_pos z, if_pos z]; exact ⟨_, _, _, rfl, rfl, rel⟩
      · rw [if_neg z, if_neg z]; exact ⟨_, _, _, rfl, rfl, rel⟩
  · rw [c1, d1, if_pos rfl, if_pos rfl]; exact hs_e1 R
theorem s_law (R : hs_Rel M N) (p0 p1 p2 p3 : Int32) : hs_S (f_X6_law M p0 p1 p2 p3) (f_X7_law N p0 p1 p2 p3) := by
  unfold f_X6_law f_X7_law
  rcases hs_wi p0 (b := 1) (by decide) (B := 1) rfl with ⟨c1, d1, u, hu, rfl⟩ | ⟨c1, d1⟩
  · rw [c1, d1, if_neg hs_10, if_neg hs_10]
    match u, hu with
    | 0, _ =>
      obtain ⟨M', g1, g2⟩ := hs_cgv0 (M := M) R.1.2.1 p1 p2 p3
      obtain ⟨N', g3, g4⟩ := hs_rgv0 R.1.2.1 p1 p2 p3
      have g1' : f_X0_gives M (nI 0) p1 p2 p3 = _ := g1
      have g3' : f_X7_gives N (nI 0) p1 p2 p3 = _ := g3
      rw [g1', g3']
      exact ⟨_, _, _, rfl, rfl, R.sc g2 g4⟩
    | 1, _ =>
      obtain ⟨M', g1, g2⟩ := hs_cgv1 (M := M) R.1.2.2 p1 p2 p3
      obtain ⟨N', g3, g4⟩ := hs_rgv1 R.1.2.2 p1 p2 p3
      have g1' : f_X0_gives M (nI 1) p1 p2 p3 = _ := g1
      have g3' : f_X7_gives N (nI 1) p1 p2 p3 = _ := g3
      rw [g1', g3']
      exact ⟨_, _, _, rfl, rfl, R.sc g2 g4⟩
  · rw [c1, d1, if_pos rfl, if_pos rfl]; exact hs_e1 R
/-- the day is another -/
theorem hs_day (R : hs_Rel M N) {d : Nat} (hd : d ≤ 9999) : hs_Rel (nb_i M 1 0 (nI d)) (nb_i N 1 0 (nI d)) := by
  refine R.house (hs_Oc.i (by omega) (by omega)) hs_Od.i ?_ ?_
  · rw [hs_ho1 (k := 0) rfl (by decide) (by decide) (by decide)]
    exact R.1.o0 _
  · rw [hs_ho1 (k := 0) rfl (by decide) (by decide) (by decide)]
    exact R.2.1.s (by simp [hs_bd]; omega) (by decide) (by simp)
theorem hs_dy (R : hs_Rel M N) : ∃ d, d ≤ 9999 ∧ M.1 1 0 = nI d ∧ N.1 1 0 = nI d := by
  obtain ⟨d, hd, e⟩ := R.2.1.at (k := 0) (j := 0) ⟨by unfold hs_V; omega, by omega, by omega⟩
  exact ⟨d, by simpa [hs_bd] using hd, e, (hs_r0 R.1).trans e⟩
theorem s_days (R : hs_Rel M N) (p0 : Int32) : hs_S (f_X6_days M p0) (f_X7_days N p0) := by
  unfold f_X6_days f_X7_days
  obtain ⟨d, hd, e1, e2⟩ := hs_dy R
  by_cases h1 : p0 < 1
  · have c : f_X7_in p0 1 60 = 0 := by rw [hs_in]; exact if_pos (Or.inl h1)
    rw [if_pos h1, c, if_pos rfl]; exact hs_e1 R
  · rw [if_neg h1]
    by_cases h2 : p0 ≤ 60
    · have c : f_X7_in p0 1 60 = 1 := by rw [hs_in]; exact if_neg (fun w => w.elim h1 (fun w => absurd h2 (Int32.not_le.mpr w)))
      rw [if_pos h2, c, if_neg hs_10]
      obtain ⟨m, hm, e⟩ := nI_of2 (x := p0) (M := 60) (n := 60) (by decide) (fun w => h1 (Int32.lt_trans w (by decide))) h2
      subst e
      rw [hs_c0, e1, e2, nI_add]
      by_cases h3 : d + m ≤ 9999
      · rw [if_pos (show nI (d + m) ≤ (9999 : Int32) from nI_le (b := 9999) h3 (by decide)), if_pos (show nI (d + m) ≤ (9999 : Int32) from nI_le (b := 9999) h3 (by decide))]
        exact ⟨_, _, _, rfl, rfl, hs_day R h3⟩
      · rw [if_neg (show ¬ nI (d + m) ≤ (9999 : Int32) from nI_ge (a := 9999) (by omega) (by omega)), if_neg (show ¬ nI (d + m) ≤ (9999 : Int32) from nI_ge (a := 9999) (by omega) (by omega))]
        exact hs_e3 R
    · have c : f_X7_in p0 1 60 = 0 := by rw [hs_in]; exact if_pos (Or.inr (Int32.not_le.mp h2))
      rw [if_neg h2, c, if_pos rfl]; exact hs_e1 R
theorem hs_zz (R : hs_Rel M N) (v : Int32) : hs_Rel (nb_i M 1 1 v) (nb_i N 1 1 v) := by
  refine R.house (hs_Oc.i (by omega) (by omega)) hs_Od.i ?_ ?_
  · rw [hs_ho1 (k := 0) rfl (by decide) (by decide) (by decide)]
    exact R.1.o1 _
  · rw [hs_ho1 (k := 0) rfl (by decide) (by decide) (by decide)]
    exact R.2.1.set v (fun hv => absurd ⟨rfl, rfl⟩ hv.2.1) (by decide) (by simp)
theorem s_seed (R : hs_Rel M N) (p0 : Int32) : hs_S (some (f_X6_seed M p0)) (f_X7_seed N p0) := by
  unfold f_X6_seed f_X7_seed
  have : f_X7_becomes N 1 p0 = some (N.1 1 1, nb_i N 1 1 p0) := hs_becomes (n := 1) (by decide)
  rw [this, hs_r1 R.1]
  exact ⟨_, _, _, rfl, rfl, hs_zz R p0⟩
theorem hs_i11 (M : nb_M) (z : Int32) : (nb_i M 1 1 z).1 1 1 = z := rfl
theorem hs_drc (M : nb_M) : f_X0_draw M = (((M.1 1 1 * 1103515245 + 12345).toUInt32 >>> ((8 : Int32).toUInt32 &&& Int32.toUInt32 31)).toInt32, nb_i M 1 1 (M.1 1 1 * 1103515245 + 12345)) := by
  unfold f_X0_draw
  simp only [nb_n, hs_i11]
theorem hs_drr (N : nb_M) : f_X7_draw N = (((N.1 1 1 * 1103515245 + 12345).toUInt32 >>> ((8 : Int32).toUInt32 &&& Int32.toUInt32 31)).toInt32, nb_i N 1 1 (N.1 1 1 * 1103515245 + 12345)) := by
  unfold f_X7_draw
  simp only [nb_n, hs_c1, hs_i11]
theorem hs_dr (R : hs_Rel M N) : ∃ z, hs_Rel (nb_i M 1 1 z) (nb_i N 1 1 z) ∧ f_X0_draw M = ((z.toUInt32 >>> ((8 : Int32).toUInt32 &&& Int32.toUInt32 31)).toInt32, nb_i M 1 1 z) ∧ f_X7_draw N = ((z.toUInt32 >>> ((8 : Int32).toUInt32 &&& Int32.toUInt32 31)).toInt32, nb_i N 1 1 z) := by
  have e11 : N.1 1 1 = M.1 1 1 := hs_r1 R.1
  have h2 := hs_drr N
  rw [e11] at h2
  exact ⟨_, hs_zz R _, hs_drc M, h2⟩
theorem hs_brk0 (R2 : hs_Rel M N) {i : Nat} (ha : i < 9) {v : Int32} {M2 : nb_M} (k1 : f_X0_breakPiece M (nI i) = some (v, M2)) : M2.1 1 0 = M.1 1 0 := by
  unfold f_X0_breakPiece at k1
  rw [hs_cco R2.2.1 ha] at k1
  obtain ⟨o2, ho2, eo3⟩ := hs_own R2 ha
  have eo4 : M.1 7 i = nI o2 := eo3
  simp only [nb_o, nb_n, if_neg (nI_in (c := i) (N := 9) ha (by decide))] at k1
  rw [nI_clamp (show i < 2 ^ 31 by omega), eo4] at k1
  simp only [if_neg (nI_in (c := o2) (N := 5) ho2 (by decide))] at k1
  repeat' split at k1
  all_goals first | (obtain ⟨-, rfl⟩ := nb_e2 k1; rfl) | cases k1
theorem hs_dbd : ∀ (n i : Nat) (acc : Int32) (M N : nb_M), hs_Rel M N → i ≤ 9 → 9 - i < n → ∀ d, d < 9999 → M.1 1 0 = nI d → ∃ v M' N', f_X0_dayByDraws_4 n M acc (nI i) = some (v, M') ∧ f_X7_drawn_4 n N acc (nI i) = some (v, N') ∧ hs_Rel M' N' ∧ M'.1 1 0 = nI (d + 1) := by
  intro n
  induction n with
  | zero => intro i acc M N _ _ h; omega
  | succ n ih =>
    intro i acc M N R hi hn d hd ed
    obtain ⟨q, hq, e⟩ := hs_nq R.2.1
    have e1 : M.1 1 6 = nI q := e
    have e2 : N.1 1 2 = nI q := (hs_r2 R.1).trans e
    have ed2 : N.1 1 0 = nI d := (hs_r0 R.1).trans ed
    rw [f_X0_dayByDraws_4, f_X7_drawn_4, hs_c2, hs_c0, e1, e2, ed, ed2]
    by_cases hl : i < q
    · have ha : i < 9 := by omega
      obtain ⟨o, ho, eo⟩ := hs_own R ha
      have eo' : M.1 7 i = nI o := eo
      have e7 : hs_ho 1 M 7 i = M.1 8 i := rfl
      rw [if_neg (nI_ge hl (by omega)), if_neg (nI_ge hl (by omega)), if_neg (nI_in (c := i) (N := 9) ha (by decide)), nI_clamp (show i < 2 ^ 31 by omega), hs_of3 R.1 ha, hs_of2 R.1 ha, eo, eo', e7]
      simp only [nb_n, nb_o]
      rw [hs_cth ho, hs_rth R.1 ho]
      simp only
      have skip := ih (i + 1) acc M N R (by omega) (by omega) d hd ed
      rw [nI_1]
      by_cases z1 : M.1 8 i = 0
      · rw [if_pos z1, if_pos z1]
        by_cases z2 : hs_th (hs_ho 1 M) o = 0
        · rw [if_pos z2, if_pos z2]
          obtain ⟨z, R1, dr, dr2⟩ := hs_dr R
          rw [dr, dr2]
          generalize (z.toUInt32 >>> ((8 : Int32).toUInt32 &&& Int32.toUInt32 31)).toInt32 = y
          simp only [nb_q]
          have eo2 : hs_ho 1 (nb_i M 1 1 z) 6 i = nI o := eo
          rw [hs_of2 R1.1 ha, eo2]
          simp only
          obtain ⟨M', g1, g2⟩ := hs_cri R1.1 R1.2.1 ha ho
          obtain ⟨N', g3, g4⟩ := hs_rri R1.1 R1.2.1 ha ho
          rw [g1, g3]
          simp only [nb_p]
          have R2 := R1.sc g2 g4
          have ed3 : M'.1 1 0 = nI d := by rw [g2.1 1 (by omega) (by omega)]; exact ed
          split
          · exact ih (i + 1) acc M' N' R2 (by omega) (by omega) d hd ed3
          · obtain ⟨v, M2, N2, k1, k2, -, k4⟩ := hs_brk R2 ha
            have k5 : M2.1 1 0 = nI d := by rw [hs_brk0 R2 ha k1, ed3]
            rw [k1, k2]
            simp only
            exact ih (i + 1) (acc + 1) M2 N2 k4 (by omega) (by omega) d hd k5
        · rw [if_neg z2, if_neg z2]; exact skip
      · rw [if_neg z1, if_neg z1]; exact skip
    · rw [if_pos (nI_le (by omega) (by omega)), if_pos (nI_le (by omega) (by omega)), nI_1]
      exact ⟨_, _, _, rfl, rfl, hs_day R (by omega), rfl⟩
end HSM
