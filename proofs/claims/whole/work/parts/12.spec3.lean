/-! what a text gives: a pile of numbers, the top first -/
def hs_jn (c p q : Int32) : Int32 :=
  if c = 37 then (if q = 0 then 0 else p - p / q * q) else if c = 38 then (if p = 0 then 0 else if q = 0 then 0 else 1) else if c = 42 then p * q else if c = 43 then p + q else if c = 45 then p - q
  else if c = 47 then (if q = 0 then 0 else p / q) else if c = 60 then (if q ≤ p then 0 else 1) else if c = 61 then (if ¬ p = q then 0 else 1) else if c = 62 then (if p ≤ q then 0 else 1) else if ¬ p = 0 then 1 else if q = 0 then 0 else 1
theorem hs_cjn (c p q : Int32) : f_X3_joined c p q = some (hs_jn c p q) := by
  unfold f_X3_joined hs_jn
  repeat' split
  all_goals first | rfl | contradiction
theorem hs_rjn (c p q : Int32) : f_X7_twoOf c p q = some (hs_jn c p q) := by
  unfold f_X7_twoOf hs_jn
  repeat' split
  all_goals first | rfl | contradiction
def hs_ev1 (x a b c : Int32) (st : List Int32) : List Int32 :=
  if x < 20000 then (if x < 10000 then x else if x = nI 10000 then a else if x = nI 10001 then b else c) :: st
  else if x = nI 20033 then (match st with
    | v :: r => (if v = 0 then 1 else 0) :: r
    | [] => [])
  else (match st with
    | q :: p :: r => hs_jn (x - 20000) p q :: r
    | st => st)
def hs_evn (s : Nat → Int32) (a b c : Int32) : Nat → List Int32
  | 0 => []
  | j + 1 => hs_ev1 (s j) a b c (hs_evn s a b c j)
def hs_SA (f : Nat → Int32) : List Int32 → Prop
  | [] => True
  | v :: r => f r.length = v ∧ hs_SA f r
def hs_bot : List Int32 → Int32
  | [] => 0
  | v :: r => if r = [] then v else hs_bot r
theorem hs_SA.upd {f : Nat → Int32} {n : Nat} {x : Int32} : ∀ {st : List Int32}, hs_SA f st → st.length ≤ n → hs_SA (upd f n x) st
  | [], _, _ => trivial
  | v :: r, h, hn => by
    have hn' : r.length + 1 ≤ n := hn
    exact ⟨by rw [hs_upd_n (by omega)]; exact h.1, hs_SA.upd h.2 (by omega)⟩
theorem hs_SA.bot {f : Nat → Int32} : ∀ {st : List Int32}, hs_SA f st → 1 ≤ st.length → f 0 = hs_bot st
  | [], _, h => by simp at h
  | [v], h, _ => h.1
  | v :: w :: r, h, _ => by
    have := hs_SA.bot h.2 (by simp)
    simpa [hs_bot] using this
theorem hs_dep1 {x a b c : Int32} {st : List Int32} {d' : Nat} (h : hs_DS x st.length d') : (hs_ev1 x a b c st).length = d' ∧ 1 ≤ d' ∧ d' ≤ st.length + 1 := by
  rcases h with ⟨h1, h2⟩ | ⟨h1, h2, h3⟩ | ⟨h1, h2, h3, h4⟩
  · simp [hs_ev1, h1, h2]
  · have e : ¬ x < 20000 := by rw [h1]; decide
    cases st with
    | nil => simp at h2
    | cons v r =>
      have e2 : hs_ev1 x a b c (v :: r) = (if v = 0 then 1 else 0) :: r := by simp only [hs_ev1, if_neg e, if_pos h1]
      rw [e2]
      simp only [List.length_cons] at *
      omega
  · cases st with
    | nil => exact absurd h3 (by simp)
    | cons q st2 =>
      cases st2 with
      | nil => exact absurd h3 (by simp)
      | cons p r =>
        have e : hs_ev1 x a b c (q :: p :: r) = hs_jn (x - 20000) p q :: r := by simp only [hs_ev1, if_neg h1, if_neg h2]
        rw [e]
        simp only [List.length_cons] at *
        omega
theorem hs_dep {s : Nat → Int32} {a b c : Int32} {k : Nat} {D : Nat → Nat} (h0 : D 0 = 0) (hD : ∀ j, j < k → hs_DS (s j) (D j) (D (j + 1))) : ∀ j, j ≤ k → (hs_evn s a b c j).length = D j ∧ D j ≤ j ∧ (1 ≤ j → 1 ≤ D j) := by
  intro j
  induction j with
  | zero => intro _; exact ⟨by rw [h0]; rfl, by omega, by omega⟩
  | succ j ih =>
    intro hj
    obtain ⟨a1, a2, -⟩ := ih (by omega)
    have h := hD j (by omega)
    rw [← a1] at h
    have g := hs_dep1 (a := a) (b := b) (c := c) h
    exact ⟨g.1, by omega, fun _ => g.2.1⟩
theorem hs_ge20 {v : Nat} (h : 20000 ≤ v) (hv : v < 2 ^ 31) : ¬ nI v < 20000 := nI_nlt (b := 20000) h hv
theorem hs_lt20 {v : Nat} (h : v < 20000) : nI v < 20000 := nI_lt (b := 20000) h (by decide)
theorem hs_m1 (n : Nat) : nI (n + 1) + (-1) = nI n := pk_m1 n
theorem hs_m1' (n : Nat) : nI (n + 1) - 1 = nI n := nI_pred n

theorem hs_cw12 (a b c : Int32) {k : Nat} {s : Nat → Int32} (hk : k ≤ 60) {D : Nat → Nat} (h0 : D 0 = 0) (hD : ∀ j, j < k → hs_DS (s j) (D j) (D (j + 1))) (h1 : 1 ≤ k) :
    ∀ (n i : Nat) (M : nb_M), M.1 12 1 = nI k → M.1 13 = s → i ≤ k → k - i < n → hs_SA (M.1 14) (hs_evn s a b c i) → ∃ M', f_X3_workOut_12_6 n M a b c (nI (hs_evn s a b c i).length) (nI i) = some (hs_bot (hs_evn s a b c k), M') ∧ hs_Sc M M' := by
  intro n
  induction n with
  | zero => intro i M _ _ _ h; omega
  | succ n ih =>
    intro i M ek es hi hn hA
    obtain ⟨dl, d2, d3⟩ := hs_dep (a := a) (b := b) (c := c) h0 hD i hi
    rw [f_X3_workOut_12_6, ek]
    by_cases hl : i < k
    · have hds := hD i hl
      rw [← dl] at hds
      have hev : hs_evn s a b c (i + 1) = hs_ev1 (s i) a b c (hs_evn s a b c i) := rfl
      have hlen : (hs_evn s a b c i).length < 60 := by omega
      rw [if_neg (nI_ge hl (by omega)), if_neg (nI_in (by omega) (by decide)), nI_clamp (by omega), es]
      simp only [nb_n]
      generalize hst : hs_evn s a b c i = st at *
      have go : ∀ (x : Int32) (j : Nat) (st' : List Int32), hs_evn s a b c (i + 1) = st' → hs_SA (upd (M.1 14) j x) st' → ∃ M', f_X3_workOut_12_6 n (nb_i M 14 j x) a b c (nI st'.length) (nI (i + 1)) = some (hs_bot (hs_evn s a b c k), M') ∧ hs_Sc M M' := by
        intro x j st' e1 e2
        have h := ih (i + 1) (nb_i M 14 j x) ek es (by omega) (by omega) (by rw [e1]; exact e2)
        rw [e1] at h
        obtain ⟨M', q1, q2⟩ := h
        exact ⟨M', q1, (hs_Sc.i (by omega)).tr q2⟩
      rcases hds with ⟨p1, p2⟩ | ⟨p1, p2, p3⟩ | ⟨p1, p2, p3, p4⟩
      · have np : ¬ (20000 : Int32) ≤ s i := Int32.not_le.mpr p1
        rw [if_neg np, if_neg (show ¬ (60 : Int32) ≤ nI st.length from nI_ge (b := 60) hlen (by decide))]
        have e1 : hs_evn s a b c (i + 1) = (if s i < 10000 then s i else if s i = nI 10000 then a else if s i = nI 10001 then b else c) :: st := by rw [hev]; simp [hs_ev1, p1]
        have e2 : ∀ x, x :: st = hs_evn s a b c (i + 1) → hs_SA (upd (M.1 14) st.length x) (x :: st) := fun x _ => ⟨hs_upd_s, hA.upd (Nat.le_refl _)⟩
        by_cases q : (10000 : Int32) ≤ s i
        · have e3 : f_X3_named (s i - 10000) a b c = (if s i < 10000 then s i else if s i = nI 10000 then a else if s i = nI 10001 then b else c) := by
            rw [if_neg (Int32.not_lt.mpr q)]
            unfold f_X3_named
            have z0 : (s i - 10000 = 0) ↔ s i = nI 10000 := by
              constructor
              · intro z; rw [← Int32.sub_add_cancel (s i) 10000, z]; rfl
              · intro z; rw [z]; rfl
            have z1 : (s i - 10000 = 1) ↔ s i = nI 10001 := by
              constructor
              · intro z; rw [← Int32.sub_add_cancel (s i) 10000, z]; rfl
              · intro z; rw [z]; rfl
            by_cases y0 : s i = nI 10000
            · rw [if_pos (z0.mpr y0), if_pos y0]
            · rw [if_neg (fun w => y0 (z0.mp w)), if_neg y0]
              by_cases y1 : s i = nI 10001
              · rw [if_pos (z1.mpr y1), if_pos y1]
              · rw [if_neg (fun w => y1 (z1.mp w)), if_neg y1]
          rw [if_pos q, if_neg (nI_in (by omega) (by decide)), nI_clamp (by omega), nI_1, nI_1, e3]
          exact go _ _ _ e1 (e2 _ e1.symm)
        · have e3 : s i = (if s i < 10000 then s i else if s i = nI 10000 then a else if s i = nI 10001 then b else c) := by rw [if_pos (Int32.not_le.mp q)]
          rw [if_neg q, if_neg (nI_in (by omega) (by decide)), nI_clamp (by omega), nI_1, nI_1]
          have := go (s i) st.length (s i :: st) (by rw [e1, ← e3]) (e2 _ (by rw [e1, ← e3]))
          exact this
      · have np : (20000 : Int32) ≤ s i := by rw [p1]; decide
        have e33 : s i = 20033 := p1
        rw [if_pos np, if_pos e33]
        cases st with
        | nil => exact absurd p2 (by simp)
        | cons v r =>
          have hr : r.length < 60 := by simp only [List.length_cons] at hlen; omega
          have e1 : hs_evn s a b c (i + 1) = (if v = 0 then 1 else 0) :: r := by
            rw [hev]
            have : ¬ s i < 20000 := Int32.not_lt.mpr np
            simp only [hs_ev1, if_neg this, if_pos p1]
          simp only [List.length_cons]
          rw [if_neg (show ¬ nI (r.length + 1) < (1 : Int32) from nI_nlt (b := 1) (by omega) (by omega)), hs_m1', if_neg (nI_in hr (by decide)), nI_clamp (by omega), hA.1]
          have g : ∀ x, hs_evn s a b c (i + 1) = x :: r → ∃ M', f_X3_workOut_12_6 n (nb_i M 14 r.length x) a b c (nI (r.length + 1)) (nI (i + 1)) = some (hs_bot (hs_evn s a b c k), M') ∧ hs_Sc M M' := fun x hx => go x r.length (x :: r) hx ⟨hs_upd_s, hA.2.upd (Nat.le_refl _)⟩
          by_cases hv : v = 0
          · rw [if_pos hv, nI_1]
            exact g 1 (by rw [e1, if_pos hv])
          · rw [if_neg hv, nI_1]
            exact g 0 (by rw [e1, if_neg hv])
      · have np : (20000 : Int32) ≤ s i := Int32.not_lt.mp p1
        rw [if_pos np, if_neg (show ¬ s i = 20033 from p2)]
        cases st with
        | nil => exact absurd p3 (by simp)
        | cons q st2 =>
          cases st2 with
          | nil => exact absurd p3 (by simp)
          | cons p r =>
            have hr : r.length + 2 < 60 := by simp only [List.length_cons] at hlen; omega
            have e1 : hs_evn s a b c (i + 1) = hs_jn (s i - 20000) p q :: r := by
              rw [hev]
              simp only [hs_ev1, if_neg p1, if_neg p2]
            have a1 : M.1 14 (r.length + 1) = q := hA.1
            have a2 : M.1 14 r.length = p := hA.2.1
            simp only [List.length_cons]
            rw [if_neg (show ¬ nI (r.length + 1 + 1) < (2 : Int32) from nI_nlt (b := 2) (by omega) (by omega)), hs_m1, hs_m1', if_neg (nI_in (by omega) (by decide)), if_neg (nI_in (by omega) (by decide)), nI_clamp (by omega), nI_clamp (by omega), a1, a2, hs_cjn]
            simp only [nb_o]
            rw [nI_1]
            exact go _ r.length _ e1 ⟨hs_upd_s, hA.2.2.upd (Nat.le_refl _)⟩
    · have : i = k := by omega
      subst this
      rw [if_pos (nI_le (Nat.le_refl _) (by omega)), hs_c0]
      exact ⟨M, by rw [hA.bot (by omega)], hs_Sc.rf M⟩
theorem hs_cw15 (a b c : Int32) {k : Nat} {s : Nat → Int32} (hk : k ≤ 60) {D : Nat → Nat} (h0 : D 0 = 0) (hD : ∀ j, j < k → hs_DS (s j) (D j) (D (j + 1))) (h1 : 1 ≤ k) :
    ∀ (n i : Nat) (M : nb_M), M.1 15 1 = nI k → M.1 16 = s → i ≤ k → k - i < n → hs_SA (M.1 17) (hs_evn s a b c i) → ∃ M', f_X3_workOut_15_6 n M a b c (nI (hs_evn s a b c i).length) (nI i) = some (hs_bot (hs_evn s a b c k), M') ∧ hs_Sc M M' := by
  intro n
  induction n with
  | zero => intro i M _ _ _ h; omega
  | succ n ih =>
    intro i M ek es hi hn hA
    obtain ⟨dl, d2, d3⟩ := hs_dep (a := a) (b := b) (c := c) h0 hD i hi
    rw [f_X3_workOut_15_6, ek]
    by_cases hl : i < k
    · have hds := hD i hl
      rw [← dl] at hds
      have hev : hs_evn s a b c (i + 1) = hs_ev1 (s i) a b c (hs_evn s a b c i) := rfl
      have hlen : (hs_evn s a b c i).length < 60 := by omega
      rw [if_neg (nI_ge hl (by omega)), if_neg (nI_in (by omega) (by decide)), nI_clamp (by omega), es]
      simp only [nb_n]
      generalize hst : hs_evn s a b c i = st at *
      have go : ∀ (x : Int32) (j : Nat) (st' : List Int32), hs_evn s a b c (i + 1) = st' → hs_SA (upd (M.1 17) j x) st' → ∃ M', f_X3_workOut_15_6 n (nb_i M 17 j x) a b c (nI st'.length) (nI (i + 1)) = some (hs_bot (hs_evn s a b c k), M') ∧ hs_Sc M M' := by
        intro x j st' e1 e2
        have h := ih (i + 1) (nb_i M 17 j x) ek es (by omega) (by omega) (by rw [e1]; exact e2)
        rw [e1] at h
        obtain ⟨M', q1, q2⟩ := h
        exact ⟨M', q1, (hs_Sc.i (by omega)).tr q2⟩
      rcases hds with ⟨p1, p2⟩ | ⟨p1, p2, p3⟩ | ⟨p1, p2, p3, p4⟩
      · have np : ¬ (20000 : Int32) ≤ s i := Int32.not_le.mpr p1
        rw [if_neg np, if_neg (show ¬ (60 : Int32) ≤ nI st.length from nI_ge (b := 60) hlen (by decide))]
        have e1 : hs_evn s a b c (i + 1) = (if s i < 10000 then s i else if s i = nI 10000 then a else if s i = nI 10001 then b else c) :: st := by rw [hev]; simp [hs_ev1, p1]
        have e2 : ∀ x, x :: st = hs_evn s a b c (i + 1) → hs_SA (upd (M.1 17) st.length x) (x :: st) := fun x _ => ⟨hs_upd_s, hA.upd (Nat.le_refl _)⟩
        by_cases q : (10000 : Int32) ≤ s i
        · have e3 : f_X3_named (s i - 10000) a b c = (if s i < 10000 then s i else if s i = nI 10000 then a else if s i = nI 10001 then b else c) := by
            rw [if_neg (Int32.not_lt.mpr q)]
            unfold f_X3_named
            have z0 : (s i - 10000 = 0) ↔ s i = nI 10000 := by
              constructor
              · intro z; rw [← Int32.sub_add_cancel (s i) 10000, z]; rfl
              · intro z; rw [z]; rfl
            have z1 : (s i - 10000 = 1) ↔ s i = nI 10001 := by
              constructor
              · intro z; rw [← Int32.sub_add_cancel (s i) 10000, z]; rfl
              · intro z; rw [z]; rfl
            by_cases y0 : s i = nI 10000
            · rw [if_pos (z0.mpr y0), if_pos y0]
            · rw [if_neg (fun w => y0 (z0.mp w)), if_neg y0]
              by_cases y1 : s i = nI 10001
              · rw [if_pos (z1.mpr y1), if_pos y1]
              · rw [if_neg (fun w => y1 (z1.mp w)), if_neg y1]
          rw [if_pos q, if_neg (nI_in (by omega) (by decide)), nI_clamp (by omega), nI_1, nI_1, e3]
          exact go _ _ _ e1 (e2 _ e1.symm)
        · have e3 : s i = (if s i < 10000 then s i else if s i = nI 10000 then a else if s i = nI 10001 then b else c) := by rw [if_pos (Int32.not_le.mp q)]
          rw [if_neg q, if_neg (nI_in (by omega) (by decide)), nI_clamp (by omega), nI_1, nI_1]
          have := go (s i) st.length (s i :: st) (by rw [e1, ← e3]) (e2 _ (by rw [e1, ← e3]))
          exact this
      · have np : (20000 : Int32) ≤ s i := by rw [p1]; decide
        have e33 : s i = 20033 := p1
        rw [if_pos np, if_pos e33]
        cases st with
        | nil => exact absurd p2 (by simp)
        | cons v r =>
          have hr : r.length < 60 := by simp only [List.length_cons] at hlen; omega
          have e1 : hs_evn s a b c (i + 1) = (if v = 0 then 1 else 0) :: r := by
            rw [hev]
            have : ¬ s i < 20000 := Int32.not_lt.mpr np
            simp only [hs_ev1, if_neg this, if_pos p1]
          simp only [List.length_cons]
          rw [if_neg (show ¬ nI (r.length + 1) < (1 : Int32) from nI_nlt (b := 1) (by omega) (by omega)), hs_m1', if_neg (nI_in hr (by decide)), nI_clamp (by omega), hA.1]
          have g : ∀ x, hs_evn s a b c (i + 1) = x :: r → ∃ M', f_X3_workOut_15_6 n (nb_i M 17 r.length x) a b c (nI (r.length + 1)) (nI (i + 1)) = some (hs_bot (hs_evn s a b c k), M') ∧ hs_Sc M M' := fun x hx => go x r.length (x :: r) hx ⟨hs_upd_s, hA.2.upd (Nat.le_refl _)⟩
          by_cases hv : v = 0
          · rw [if_pos hv, nI_1]
            exact g 1 (by rw [e1, if_pos hv])
          · rw [if_neg hv, nI_1]
            exact g 0 (by rw [e1, if_neg hv])
      · have np : (20000 : Int32) ≤ s i := Int32.not_lt.mp p1
        rw [if_pos np, if_neg (show ¬ s i = 20033 from p2)]
        cases st with
        | nil => exact absurd p3 (by simp)
        | cons q st2 =>
          cases st2 with
          | nil => exact absurd p3 (by simp)
          | cons p r =>
            have hr : r.length + 2 < 60 := by simp only [List.length_cons] at hlen; omega
            have e1 : hs_evn s a b c (i + 1) = hs_jn (s i - 20000) p q :: r := by
              rw [hev]
              simp only [hs_ev1, if_neg p1, if_neg p2]
            have a1 : M.1 17 (r.length + 1) = q := hA.1
            have a2 : M.1 17 r.length = p := hA.2.1
            simp only [List.length_cons]
            rw [if_neg (show ¬ nI (r.length + 1 + 1) < (2 : Int32) from nI_nlt (b := 2) (by omega) (by omega)), hs_m1, hs_m1', if_neg (nI_in (by omega) (by decide)), if_neg (nI_in (by omega) (by decide)), nI_clamp (by omega), nI_clamp (by omega), a1, a2, hs_cjn]
            simp only [nb_o]
            rw [nI_1]
            exact go _ r.length _ e1 ⟨hs_upd_s, hA.2.2.upd (Nat.le_refl _)⟩
    · have : i = k := by omega
      subst this
      rw [if_pos (nI_le (Nat.le_refl _) (by omega)), hs_c0]
      exact ⟨M, by rw [hA.bot (by omega)], hs_Sc.rf M⟩
