/-! the law's start: what it finds, the first memories -/
def la_M0 : nb_M := (fun c => if c = 1 then upd (fun _ => 0) 1 1 else if c = 18 then upd (fun _ => 0) 1 1 else fun _ => 0, fun _ _ => 0)
def la_N0 : nb_M := (fun c => if c = 1 then upd (fun _ => 0) 1 1 else fun _ => 0, fun _ _ => 0)
theorem la_HT0 {s r : Nat → Int32} {q : Nat} (h : r q = 0) : hs_HT 0 s r q := ⟨0, by omega, rfl, h, fun j hj => by omega, fun _ => 0, rfl, fun j hj => by omega⟩
theorem la_rel0 : hs_Rel la_M0 la_N0 := by
  have hv : ∀ k j, hs_V k j → hs_ho 1 la_M0 k j = if k = 0 ∧ j = 1 then 1 else 0 := by
    intro k j h
    by_cases hx : k = 13 ∨ k = 16 ∨ 16 < k
    · unfold hs_V at h; omega
    · simp only [hs_ho, if_neg hx, la_M0]
      by_cases h0 : k = 0
      · subst h0
        by_cases h1 : j = 1
        · subst h1; rfl
        · rw [if_pos rfl, if_neg (fun w => h1 w.2), hs_upd_n h1]
      · have hk : k ≤ 10 := by unfold hs_V at h; omega
        rw [if_neg (by omega), if_neg (by omega), if_neg (fun w => h0 w.1)]
  have hz : ∀ k j, k ≠ 0 → hs_ho 1 la_M0 k j = 0 := by
    intro k j h0
    by_cases hx : k = 13 ∨ k = 16 ∨ 16 < k
    · simp only [hs_ho, if_pos hx]
    · simp only [hs_ho, if_neg hx, la_M0]
      rw [if_neg (by omega), if_neg (by omega)]
  refine ⟨⟨fun k j h => ?_, ?_, ?_⟩, ⟨fun k j h => ?_, fun a ha hx => ?_⟩, rfl, Or.inl rfl, fun k h1 h6 => ?_, ⟨0, by omega, rfl, rfl, fun i hi => by omega⟩, ?_, ?_, ?_, ?_⟩
  · rw [hv k j h]
    show upd (fun _ => (0 : Int32)) 1 1 (hs_ps k j) = _
    by_cases e : k = 0 ∧ j = 1
    · obtain ⟨rfl, rfl⟩ := e; rfl
    · rw [if_neg e]
      refine hs_upd_n (fun w => e ?_)
      exact hs_inj h (k' := 0) (j' := 1) (by unfold hs_V; omega) w
  · rw [hz 11 1 (by decide)]; exact la_HT0 rfl
  · rw [hz 14 1 (by decide)]; exact la_HT0 rfl
  · rw [hv k j h.1, if_neg h.2.1]; exact ⟨0, Nat.zero_le _, rfl⟩
  · rw [hv 0 6 (by unfold hs_V; omega), if_neg (by decide)] at hx
    exact absurd hx (nI_pos (by omega))
  · rfl
  all_goals exact ⟨0, 0, Or.inl rfl, by omega, fun _ => rfl, rfl, rfl, rfl, rfl, fun k hk => rfl⟩
theorem la_AD {ad : Nat → Nat} {ca : Nat → ClassId} {M N : nb_M} {b0 : Nat} (h : va_D (fun q => b0 ≤ q) (nb_w ad ca M N)) : nb_AD ad b0 := by
  have g : ∀ i, i < 65 → ∃ p, (nb_w ad ca M N)[i]? = some p ∧ p.1 = ad i := by
    intro i hi
    have h1 : ((nb_w ad ca M N).map Prod.fst)[i]? = some (ad i) := by
      rw [nb_len, List.getElem?_map, List.getElem?_range hi]; rfl
    rw [List.getElem?_map] at h1
    cases hr : (nb_w ad ca M N)[i]? with
    | none => rw [hr] at h1; cases h1
    | some p => rw [hr] at h1; exact ⟨p, rfl, Option.some.inj h1⟩
  refine ⟨fun i j hi hj e => ?_, fun i hi => ?_⟩
  · obtain ⟨p, p1, p2⟩ := g i hi
    obtain ⟨q, q1, q2⟩ := g j hj
    exact h.1 i j p q p1 q1 (by rw [p2, q2]; exact e)
  · obtain ⟨p, p1, p2⟩ := g i hi
    have := h.2 i p p1
    rw [p2] at this
    exact this
section LST
variable {s : State} {b : Nat}
theorem la_tab (i : Nat) {w : Cond} (h : tables_1[i]? = some w) : w ∈ lw_tbl := List.mem_append_right _ (List.mem_of_getElem? h)
set_option maxRecDepth 20000 in
theorem la_K {D : va_G} {ca : Nat → ClassId} (hts : ∀ w ∈ lw_tbl, w.before #[Value.ref b] s = true) (hK : va_K D vwCl (nb_tys ca) s) : nb_K D ca s :=
  ⟨hK, va_Nw.of rfl (hts _ (la_tab 287 (by decide +kernel))), va_Nw.of rfl (hts _ (la_tab 306 (by decide +kernel))), va_Nw.of rfl (hts _ (la_tab 561 (by decide +kernel))), va_Nw.of rfl (hts _ (la_tab 664 (by decide +kernel))), va_Nw.of rfl (hts _ (la_tab 435 (by decide +kernel))), va_Nw.of rfl (hts _ (la_tab 437 (by decide +kernel)))⟩
set_option maxRecDepth 20000 in
theorem la_Z (hts : ∀ w ∈ lw_tbl, w.before #[Value.ref b] s = true) (hgv : (Jvm.Cond.and given_1 narrow_1).before #[Value.ref b] s = true) : nb_Z s.heap.size s s.heap := by
  have hs := flat_of_before _ hgv
  have hA : ∀ a : Nat, a < s.heap.size → ¬ (fun q => s.heap.size ≤ q) a := fun a h => Nat.not_le.mpr h
  have hini : (Cond.initialized RX6).before #[Value.ref b] s = true := hts _ (la_tab 1 (by decide +kernel))
  obtain ⟨t1, v1, T1⟩ := va_Tof (tm := .static RX6 "ABOVE" "[I") (ty := .int) (N := 7) (f := fun j => .int (nb_above j)) (A := fun q => s.heap.size ≤ q) (by decide) (hs _ (by decide +kernel)) (va_eqt (hs _ (by decide +kernel))) (fun j hj => by
    rcases (show j = 0 ∨ j = 1 ∨ j = 2 ∨ j = 3 ∨ j = 4 ∨ j = 5 ∨ j = 6 by omega) with rfl | rfl | rfl | rfl | rfl | rfl | rfl
    · exact va_eqt (z := -1) (hs _ (by decide +kernel))
    · exact va_eqt (z := 0) (hs _ (by decide +kernel))
    · exact va_eqt (z := 0) (hs _ (by decide +kernel))
    · exact va_eqt (z := 0) (hs _ (by decide +kernel))
    · exact va_eqt (z := 1) (hs _ (by decide +kernel))
    · exact va_eqt (z := 2) (hs _ (by decide +kernel))
    · exact va_eqt (z := 0) (hs _ (by decide +kernel))) hA
  obtain ⟨t2, v2, T2⟩ := va_Tof (tm := .static RX6 "RISK_NAMES" "[C") (ty := .char) (N := 3) (f := fun j => .int (nb_rn j)) (A := fun q => s.heap.size ≤ q) (by decide) (hs _ (by decide +kernel)) (va_eqt (hs _ (by decide +kernel))) (fun j hj => by
    rcases (show j = 0 ∨ j = 1 ∨ j = 2 by omega) with rfl | rfl | rfl
    · exact va_eqt (z := 114) (hs _ (by decide +kernel))
    · exact va_eqt (z := 99) (hs _ (by decide +kernel))
    · exact va_eqt (z := 100) (hs _ (by decide +kernel))) hA
  obtain ⟨t3, v3, T3⟩ := va_Tof (tm := .static RX6 "YEARS_NAMES" "[C") (ty := .char) (N := 3) (f := fun j => .int (nb_yn j)) (A := fun q => s.heap.size ≤ q) (by decide) (hs _ (by decide +kernel)) (va_eqt (hs _ (by decide +kernel))) (fun j hj => by
    rcases (show j = 0 ∨ j = 1 ∨ j = 2 by omega) with rfl | rfl | rfl
    · exact va_eqt (z := 99) (hs _ (by decide +kernel))
    · exact va_eqt (z := 98) (hs _ (by decide +kernel))
    · exact va_eqt (z := 112) (hs _ (by decide +kernel))) hA
  exact ⟨t1, t2, t3, ⟨va_Zof (hts _ (la_tab 362 (by decide +kernel))) hini v1 hA, T1⟩, ⟨va_Zof (hts _ (la_tab 436 (by decide +kernel))) hini v2 hA, T2⟩, ⟨va_Zof (hts _ (la_tab 438 (by decide +kernel))) hini v3 hA, T3⟩⟩
end LST
