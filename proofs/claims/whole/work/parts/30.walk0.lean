section GEN
variable {p : Program} {l : Launch} {e : Env} {s : State} {m : MethodId} {args : Array Value} {below : List Frame} {meth : Method} {c : Code} {D : va_G} {ad : Nat → Nat} {ca : Nat → ClassId} {b0 : Nat}
set_option maxHeartbeats 4000000 in
set_option maxRecDepth 100000 in
theorem k_X6_within (had : nb_AD ad b0) (M N : nb_M) (p0 : Int32) (p1 : Int32) : nb_C l D ad ca b0 yX6_within wsX6_within 0 [.int p0, .int p1] M N (some (.int (f_X6_within p0 p1))) M N := by
  obtain ⟨r, h⟩ : ∃ r, f_X6_within p0 p1 = r := ⟨_, rfl⟩
  rw [h]
  refine nb_of (cc := cX6_within) (maxL := 2) (ret := (some .boolean)) (own := RX6) (by decide +kernel) rfl rfl (Nat.le_of_ble_eq_true rfl) ?_
  intro p e s m args below meth c ls X hP hS hl
  have hl : lv_has ls 2 [(0, .int p0), (1, .int p1)] := hl
  obtain ⟨hx, hb, hml, hown, hts, hr, hlk, hK, hZ⟩ := id X
  unfold f_X6_within at h
  refine lv_iload_n hx hb dX6_within_0 rfl (lv_at hl 0 rfl) ?_
  refine lv_if_lt (tgt := 13) hx hb dX6_within_1 (by decide) (fun c_1 => ?_) (fun c_1 => ?_)
  · have h := nb_t c_1 h
    refine lv_iconst (v := (0 : Int32)) hx hb dX6_within_13 (by decide) ?_
    obtain rfl := nb_e3 h
    exact nb_zret (by decide) hx hb hr hlk hP hS dX6_within_14
  · have h := nb_f c_1 h
    refine lv_iload_n hx hb dX6_within_4 rfl (lv_at hl 0 rfl) ?_
    refine lv_iload_n hx hb dX6_within_5 rfl (lv_at hl 1 rfl) ?_
    refine lv_icmp_gt (tgt := 13) hx hb dX6_within_6 (by decide) (fun c_2 => ?_) (fun c_2 => ?_)
    · have h := nb_t c_2 h
      refine lv_iconst (v := (0 : Int32)) hx hb dX6_within_13 (by decide) ?_
      obtain rfl := nb_e3 h
      exact nb_zret (by decide) hx hb hr hlk hP hS dX6_within_14
    · have h := nb_f c_2 h
      refine lv_iconst (v := (1 : Int32)) hx hb dX6_within_9 (by decide) ?_
      refine lv_goto (tgt := 14) hx hb dX6_within_10 (by decide) ?_
      obtain rfl := nb_e3 h
      exact nb_zret (by decide) hx hb hr hlk hP hS dX6_within_14
set_option maxHeartbeats 4000000 in
set_option maxRecDepth 100000 in
theorem k_X6_fail {r : Int32} {M' : nb_M} (had : nb_AD ad b0) (M N : nb_M) (p0 : Int32) (h : f_X6_fail M p0 = some (r, M')) : nb_C l D ad ca b0 yX6_fail wsX6_fail 0 [.ref (ad 0), .int p0] M N (some (.int r)) M' N := by
  refine nb_of (cc := cX6_fail) (maxL := 2) (ret := (some .int)) (own := RX6) (by decide +kernel) rfl rfl (Nat.le_of_ble_eq_true rfl) ?_
  intro p e s m args below meth c ls X hP hS hl
  have hl : lv_has ls 2 [(0, .ref (ad 0)), (1, .int p0)] := hl
  obtain ⟨hx, hb, hml, hown, hts, hr, hlk, hK, hZ⟩ := id X
  have w_1 := hts (.fieldLink RX6 40 "NineBreakages" "errors" "[I") (by decide +kernel)
  have in6 : ∀ w ∈ u_ws RX6 TX6 8, w ∈ wsX6_fail := fun w q => List.mem_cons_of_mem _ (List.mem_append_right _ q)
  have w_3 := hts (.constant RX6 298 (-1000000000)) (by decide +kernel)
  unfold f_X6_fail at h
  refine lv_aload_n hx hb dX6_fail_0 rfl (lv_at hl 0 rfl) ?_
  refine va_get (v := .ref (ad 51)) (C := RX6) (T := TX6) (N := 8) hx hb hts in6 hown hK.1 hP 0 nb_a0 rfl 6 (by decide) w_1 (fun _ h9 => h9) rfl dX6_fail_1 ?_
  refine lv_iload_n hx hb dX6_fail_4 rfl (lv_at hl 1 rfl) ?_
  refine lv_dup2_11 hx hb dX6_fail_5 rfl rfl ?_
  obtain ⟨c_1, h⟩ := nb_c h
  refine va_iald hx hb hK.1 hP 51 0 nb_a51 rfl c_1 dX6_fail_6 ?_
  refine lv_iconst (v := (1 : Int32)) hx hb dX6_fail_7 (by decide) ?_
  refine lv_iadd hx hb dX6_fail_8 ?_
  refine nb_iast hx hb had hK hP hS nb_a51 c_1 (nb_t51 _ _) dX6_fail_9 (fun H locs hP hS => ?_)
  obtain ⟨M_2, e_2, h⟩ := nb_nE h
  rw [e_2] at hP
  refine lv_ldcw (v := (-1000000000 : Int32)) hx hb hown w_3 dX6_fail_10 ?_
  refine lv_iload_n hx hb dX6_fail_13 rfl (lv_at hl 1 rfl) ?_
  refine lv_isub hx hb dX6_fail_14 ?_
  obtain ⟨rfl, rfl⟩ := nb_e2 h
  exact nb_iret hx hb hr hlk hP hS dX6_fail_15
set_option maxHeartbeats 4000000 in
set_option maxRecDepth 100000 in
theorem k_X0_addPerson {r : Int32} {M' : nb_M} (had : nb_AD ad b0) (M N : nb_M) (p0 : Int32) (p1 : Int32) (h : f_X0_addPerson M p0 p1 = some (r, M')) : nb_C l D ad ca b0 yX0_addPerson wsX0_addPerson 0 [.ref (ad 1), .int p0, .int p1] M N (some (.int r)) M' N := by
  refine nb_of (cc := cX0_addPerson) (maxL := 4) (ret := (some .int)) (own := RX0) (by decide +kernel) rfl rfl (Nat.le_of_ble_eq_true rfl) ?_
  intro p e s m args below meth c ls X hP hS hl
  have hl : lv_has ls 4 [(0, .ref (ad 1)), (1, .int p0), (2, .int p1)] := hl
  obtain ⟨hx, hb, hml, hown, hts, hr, hlk, hK, hZ⟩ := id X
  have w_1 := hts (.fieldLink RX0 53 "NineBreakages$House" "people" "I") (by decide +kernel)
  have in0 : ∀ w ∈ u_ws RX0 TX0 16, w ∈ wsX0_addPerson := fun w q => List.mem_cons_of_mem _ (List.mem_append_right _ q)
  have w_3 := hts (.fieldLink RX0 15 "NineBreakages$House" "care" "[I") (by decide +kernel)
  have w_4 := hts (.fieldLink RX0 19 "NineBreakages$House" "due" "[I") (by decide +kernel)
  have w_5 := hts (.fieldLink RX0 22 "NineBreakages$House" "had" "[I") (by decide +kernel)
  unfold f_X0_addPerson at h
  refine lv_aload_n hx hb dX0_addPerson_0 rfl (lv_at hl 0 rfl) ?_
  refine va_get (v := .int (M.1 1 2)) (C := RX0) (T := TX0) (N := 16) hx hb hts in0 hown hK.1 hP 1 nb_a1 rfl 2 (by decide) w_1 (fun _ h9 => h9) rfl dX0_addPerson_1 ?_
  refine lv_istore_n (lv' := [(3, .int (M.1 1 2)), (0, .ref (ad 1)), (1, .int p0), (2, .int p1)]) hx hb dX0_addPerson_4 rfl hl (by decide) rfl (fun ls hl => ?_)
  refine lv_aload_n hx hb dX0_addPerson_5 rfl (lv_at hl 1 rfl) ?_
  refine va_get (v := .ref (ad 2)) (C := RX0) (T := TX0) (N := 16) hx hb hts in0 hown hK.1 hP 1 nb_a1 rfl 3 (by decide) w_3 (fun _ h9 => h9) rfl dX0_addPerson_6 ?_
  refine lv_iload_n hx hb dX0_addPerson_9 rfl (lv_at hl 0 rfl) ?_
  refine lv_iload_n hx hb dX0_addPerson_10 rfl (lv_at hl 2 rfl) ?_
  obtain ⟨c_1, h⟩ := nb_c h
  refine nb_iast hx hb had hK hP hS nb_a2 c_1 (nb_t2 _ _) dX0_addPerson_11 (fun H locs hP hS => ?_)
  obtain ⟨M_2, e_2, h⟩ := nb_nE h
  rw [e_2] at hP
  refine lv_aload_n hx hb dX0_addPerson_12 rfl (lv_at hl 1 rfl) ?_
  refine va_get (v := .ref (ad 3)) (C := RX0) (T := TX0) (N := 16) hx hb hts in0 hown hK.1 hP 1 nb_a1 rfl 4 (by decide) w_4 (fun _ h9 => h9) rfl dX0_addPerson_13 ?_
  refine lv_iload_n hx hb dX0_addPerson_16 rfl (lv_at hl 0 rfl) ?_
  refine lv_iload_n hx hb dX0_addPerson_17 rfl (lv_at hl 3 rfl) ?_
  refine nb_iast hx hb had hK hP hS nb_a3 c_1 (nb_t3 _ _) dX0_addPerson_18 (fun H locs hP hS => ?_)
  obtain ⟨M_3, e_3, h⟩ := nb_nE h
  rw [e_3] at hP
  refine lv_aload_n hx hb dX0_addPerson_19 rfl (lv_at hl 1 rfl) ?_
  refine va_get (v := .ref (ad 4)) (C := RX0) (T := TX0) (N := 16) hx hb hts in0 hown hK.1 hP 1 nb_a1 rfl 5 (by decide) w_5 (fun _ h9 => h9) rfl dX0_addPerson_20 ?_
  refine lv_iload_n hx hb dX0_addPerson_23 rfl (lv_at hl 0 rfl) ?_
  refine lv_iconst (v := (0 : Int32)) hx hb dX0_addPerson_24 (by decide) ?_
  refine nb_iast hx hb had hK hP hS nb_a4 c_1 (nb_t4 _ _) dX0_addPerson_25 (fun H locs hP hS => ?_)
  obtain ⟨M_4, e_4, h⟩ := nb_nE h
  rw [e_4] at hP
  refine lv_aload_n hx hb dX0_addPerson_26 rfl (lv_at hl 1 rfl) ?_
  refine lv_dup hx hb dX0_addPerson_27 rfl ?_
  refine va_get (v := .int (M_4.1 1 2)) (C := RX0) (T := TX0) (N := 16) hx hb hts in0 hown hK.1 hP 1 nb_a1 rfl 2 (by decide) w_1 (fun _ h9 => h9) rfl dX0_addPerson_28 ?_
  refine lv_iconst (v := (1 : Int32)) hx hb dX0_addPerson_31 (by decide) ?_
  refine lv_iadd hx hb dX0_addPerson_32 ?_
  refine nb_put (C := RX0) (T := TX0) (NN := 16) hx hb had hts in0 tyX0 tyX0_ok nmX0 hown hK hP hS nb_a1 rfl 2 (by decide) w_1 rfl (ty := .int) (by decide +kernel) rfl rfl (Nat.le_of_ble_eq_true rfl) (nb_p1_2 _) dX0_addPerson_33 (fun H locs hP hS => ?_)
  obtain ⟨M_5, e_5, h⟩ := nb_nE h
  rw [e_5] at hP
  refine lv_iload_n hx hb dX0_addPerson_36 rfl (lv_at hl 0 rfl) ?_
  obtain ⟨rfl, rfl⟩ := nb_e2 h
  exact nb_iret hx hb hr hlk hP hS dX0_addPerson_37
set_option maxHeartbeats 4000000 in
set_option maxRecDepth 100000 in
theorem k_X6_person {r : Int32} {M' : nb_M} (had : nb_AD ad b0) (M N : nb_M) (p0 : Int32) (p1 : Int32) (h : f_X6_person M p0 p1 = some (r, M')) : nb_C l D ad ca b0 yX6_person wsX6_person 1 [.ref (ad 0), .int p0, .int p1] M N (some (.int r)) M' N := by
  refine nb_of (cc := cX6_person) (maxL := 3) (ret := (some .int)) (own := RX6) (by decide +kernel) rfl rfl (Nat.le_of_ble_eq_true rfl) ?_
  intro p e s m args below meth c ls X hP hS hl
  have hl : lv_has ls 3 [(0, .ref (ad 0)), (1, .int p0), (2, .int p1)] := hl
  obtain ⟨hx, hb, hml, hown, hts, hr, hlk, hK, hZ⟩ := id X
  have w_1 := hts (.fieldLink RX6 12 "NineBreakages" "now" "LNineBreakages$House;") (by decide +kernel)
  have in6 : ∀ w ∈ u_ws RX6 TX6 8, w ∈ wsX6_person := fun w q => List.mem_cons_of_mem _ (List.mem_append_left _ (List.mem_append_right _ q))
  have w_3 := hts (.fieldLink RX6 59 "NineBreakages$House" "people" "I") (by decide +kernel)
  have in0 : ∀ w ∈ u_ws RX0 TX0 16, w ∈ wsX6_person := fun w q => List.mem_cons_of_mem _ (List.mem_append_right _ q)
  unfold f_X6_person at h
  refine lv_iload_n hx hb dX6_person_0 rfl (lv_at hl 1 rfl) ?_
  refine lv_bipush (v := (9 : Int32)) hx hb dX6_person_1 (by decide) ?_
  refine nb_callS (n := 2) (As := [.int p0, .int (9 : Int32)]) (rest := []) hx hb hml hown hts hK hZ hP hS (k_X6_within had M N p0 (9 : Int32)) gX6_person_X6_within rfl (by decide +kernel) (nb_rm (Nat.le_of_ble_eq_true rfl) (Nat.le_of_ble_eq_true rfl)) rfl hl.1 rfl (Nat.le_of_ble_eq_true rfl) dX6_person_3 (fun H locs hP hS => ?_)
  refine W.eq (g2 := F0 m 6 ls [.int (f_X6_within p0 (9 : Int32))]) rfl ?_
  refine lv_if_eq (tgt := 18) hx hb dX6_person_6 (by decide) (fun c_2 => ?_) (fun c_2 => ?_)
  · have h := nb_t c_2 h
    refine lv_aload_n hx hb dX6_person_18 rfl (lv_at hl 0 rfl) ?_
    refine lv_iconst (v := (1 : Int32)) hx hb dX6_person_19 (by decide) ?_
    obtain ⟨r_3, M_3, e_3, h⟩ := nb_pE h
    refine nb_callV (n := 1) (As := [.int (1 : Int32)]) (rest := []) hx hb hml hown hts hK hZ hP hS (k_X6_fail had M N (1 : Int32) e_3) gX6_person_X6_fail rfl (by decide +kernel) (nb_rm (Nat.le_of_ble_eq_true rfl) (Nat.le_of_ble_eq_true rfl)) nb_a0 rfl rfl rfl hl.1 rfl (Nat.le_of_ble_eq_true rfl) dX6_person_20 (fun H locs hP hS => ?_)
    refine W.eq (g2 := F0 m 23 ls [.int r_3]) rfl ?_
    obtain ⟨rfl, rfl⟩ := nb_e2 h
    exact nb_iret hx hb hr hlk hP hS dX6_person_23
  · have h := nb_f c_2 h
    refine lv_iload_n hx hb dX6_person_9 rfl (lv_at hl 2 rfl) ?_
    refine lv_bipush (v := (9 : Int32)) hx hb dX6_person_10 (by decide) ?_
    refine nb_callS (n := 2) (As := [.int p1, .int (9 : Int32)]) (rest := []) hx hb hml hown hts hK hZ hP hS (k_X6_within had M N p1 (9 : Int32)) gX6_person_X6_within rfl (by decide +kernel) (nb_rm (Nat.le_of_ble_eq_true rfl) (Nat.le_of_ble_eq_true rfl)) rfl hl.1 rfl (Nat.le_of_ble_eq_true rfl) dX6_person_12 (fun H locs hP hS => ?_)
    refine W.eq (g2 := F0 m 15 ls [.int (f_X6_within p1 (9 : Int32))]) rfl ?_
    refine lv_if_ne (tgt := 24) hx hb dX6_person_15 (by decide) (fun c_5 => ?_) (fun c_5 => ?_)
    · have h := nb_f c_5 h
      refine lv_aload_n hx hb dX6_person_24 rfl (lv_at hl 0 rfl) ?_
      refine va_get (v := .ref (ad 1)) (C := RX6) (T := TX6) (N := 8) hx hb hts in6 hown hK.1 hP 0 nb_a0 rfl 0 (by decide) w_1 (fun _ h9 => h9) rfl dX6_person_25 ?_
      refine va_get (v := .int (M.1 1 2)) (C := RX0) (T := TX0) (N := 16) hx hb hts in0 hown hK.1 hP 1 nb_a1 rfl 2 (by decide) w_3 (fun _ h9 => h9) rfl dX6_person_28 ?_
      refine lv_iconst (v := (5 : Int32)) hx hb dX6_person_31 (by decide) ?_
      refine lv_icmp_lt (tgt := 41) hx hb dX6_person_32 (by decide) (fun c_6 => ?_) (fun c_6 => ?_)
      · have h := nb_t c_6 h
        refine lv_aload_n hx hb dX6_person_41 rfl (lv_at hl 0 rfl) ?_
        refine va_get (v := .ref (ad 1)) (C := RX6) (T := TX6) (N := 8) hx hb hts in6 hown hK.1 hP 0 nb_a0 rfl 0 (by decide) w_1 (fun _ h9 => h9) rfl dX6_person_42 ?_
        refine lv_iload_n hx hb dX6_person_45 rfl (lv_at hl 1 rfl) ?_
        refine lv_iload_n hx hb dX6_person_46 rfl (lv_at hl 2 rfl) ?_
        obtain ⟨r_7, M_7, e_7, h⟩ := nb_pE h
        refine nb_callV (n := 2) (As := [.int p0, .int p1]) (rest := []) hx hb hml hown hts hK hZ hP hS (k_X0_addPerson had M N p0 p1 e_7) gX6_person_X0_addPerson rfl (by decide +kernel) (nb_rm (Nat.le_of_ble_eq_true rfl) (Nat.le_of_ble_eq_true rfl)) nb_a1 rfl rfl rfl hl.1 rfl (Nat.le_of_ble_eq_true rfl) dX6_person_47 (fun H locs hP hS => ?_)
        refine W.eq (g2 := F0 m 50 ls [.int r_7]) rfl ?_
        obtain ⟨rfl, rfl⟩ := nb_e2 h
        exact nb_iret hx hb hr hlk hP hS dX6_person_50
      · have h := nb_f c_6 h
        refine lv_aload_n hx hb dX6_person_35 rfl (lv_at hl 0 rfl) ?_
        refine lv_iconst (v := (4 : Int32)) hx hb dX6_person_36 (by decide) ?_
        obtain ⟨r_8, M_8, e_8, h⟩ := nb_pE h
        refine nb_callV (n := 1) (As := [.int (4 : Int32)]) (rest := []) hx hb hml hown hts hK hZ hP hS (k_X6_fail had M N (4 : Int32) e_8) gX6_person_X6_fail rfl (by decide +kernel) (nb_rm (Nat.le_of_ble_eq_true rfl) (Nat.le_of_ble_eq_true rfl)) nb_a0 rfl rfl rfl hl.1 rfl (Nat.le_of_ble_eq_true rfl) dX6_person_37 (fun H locs hP hS => ?_)
        refine W.eq (g2 := F0 m 40 ls [.int r_8]) rfl ?_
        obtain ⟨rfl, rfl⟩ := nb_e2 h
        exact nb_iret hx hb hr hlk hP hS dX6_person_40
    · have h := nb_t c_5 h
      refine lv_aload_n hx hb dX6_person_18 rfl (lv_at hl 0 rfl) ?_
      refine lv_iconst (v := (1 : Int32)) hx hb dX6_person_19 (by decide) ?_
      obtain ⟨r_9, M_9, e_9, h⟩ := nb_pE h
      refine nb_callV (n := 1) (As := [.int (1 : Int32)]) (rest := []) hx hb hml hown hts hK hZ hP hS (k_X6_fail had M N (1 : Int32) e_9) gX6_person_X6_fail rfl (by decide +kernel) (nb_rm (Nat.le_of_ble_eq_true rfl) (Nat.le_of_ble_eq_true rfl)) nb_a0 rfl rfl rfl hl.1 rfl (Nat.le_of_ble_eq_true rfl) dX6_person_20 (fun H locs hP hS => ?_)
      refine W.eq (g2 := F0 m 23 ls [.int r_9]) rfl ?_
      obtain ⟨rfl, rfl⟩ := nb_e2 h
      exact nb_iret hx hb hr hlk hP hS dX6_person_23
set_option maxHeartbeats 4000000 in
set_option maxRecDepth 100000 in
theorem k_X0_isPerson (had : nb_AD ad b0) (M N : nb_M) (p0 : Int32) : nb_C l D ad ca b0 yX0_isPerson wsX0_isPerson 0 [.ref (ad 1), .int p0] M N (some (.int (f_X0_isPerson M p0))) M N := by
  obtain ⟨r, h⟩ : ∃ r, f_X0_isPerson M p0 = r := ⟨_, rfl⟩
  rw [h]
  refine nb_of (cc := cX0_isPerson) (maxL := 2) (ret := (some .boolean)) (own := RX0) (by decide +kernel) rfl rfl (Nat.le_of_ble_eq_true rfl) ?_
  intro p e s m args below meth c ls X hP hS hl
  have hl : lv_has ls 2 [(0, .ref (ad 1)), (1, .int p0)] := hl
  obtain ⟨hx, hb, hml, hown, hts, hr, hlk, hK, hZ⟩ := id X
  have w_1 := hts (.fieldLink RX0 53 "NineBreakages$House" "people" "I") (by decide +kernel)
  have in0 : ∀ w ∈ u_ws RX0 TX0 16, w ∈ wsX0_isPerson := fun w q => List.mem_cons_of_mem _ (List.mem_append_right _ q)
  unfold f_X0_isPerson at h
  refine lv_iload_n hx hb dX0_isPerson_0 rfl (lv_at hl 1 rfl) ?_
  refine lv_if_lt (tgt := 16) hx hb dX0_isPerson_1 (by decide) (fun c_1 => ?_) (fun c_1 => ?_)
  · have h := nb_t c_1 h
    refine lv_iconst (v := (0 : Int32)) hx hb dX0_isPerson_16 (by decide) ?_
    obtain rfl := nb_e3 h
    exact nb_zret (by decide) hx hb hr hlk hP hS dX0_isPerson_17
  · have h := nb_f c_1 h
    refine lv_iload_n hx hb dX0_isPerson_4 rfl (lv_at hl 1 rfl) ?_
    refine lv_aload_n hx hb dX0_isPerson_5 rfl (lv_at hl 0 rfl) ?_
    refine va_get (v := .int (M.1 1 2)) (C := RX0) (T := TX0) (N := 16) hx hb hts in0 hown hK.1 hP 1 nb_a1 rfl 2 (by decide) w_1 (fun _ h9 => h9) rfl dX0_isPerson_6 ?_
    refine lv_icmp_ge (tgt := 16) hx hb dX0_isPerson_9 (by decide) (fun c_2 => ?_) (fun c_2 => ?_)
    · have h := nb_t c_2 h
      refine lv_iconst (v := (0 : Int32)) hx hb dX0_isPerson_16 (by decide) ?_
      obtain rfl := nb_e3 h
      exact nb_zret (by decide) hx hb hr hlk hP hS dX0_isPerson_17
    · have h := nb_f c_2 h
      refine lv_iconst (v := (1 : Int32)) hx hb dX0_isPerson_12 (by decide) ?_
      refine lv_goto (tgt := 17) hx hb dX0_isPerson_13 (by decide) ?_
      obtain rfl := nb_e3 h
      exact nb_zret (by decide) hx hb hr hlk hP hS dX0_isPerson_17
set_option maxHeartbeats 4000000 in
set_option maxRecDepth 100000 in
theorem k_X0_isThrough {r : Int32} (had : nb_AD ad b0) (M N : nb_M) (p0 : Int32) (h : f_X0_isThrough M p0 = some r) : nb_C l D ad ca b0 yX0_isThrough wsX0_isThrough 0 [.ref (ad 1), .int p0] M N (some (.int r)) M N := by
  refine nb_of (cc := cX0_isThrough) (maxL := 2) (ret := (some .boolean)) (own := RX0) (by decide +kernel) rfl rfl (Nat.le_of_ble_eq_true rfl) ?_
  intro p e s m args below meth c ls X hP hS hl
  have hl : lv_has ls 2 [(0, .ref (ad 1)), (1, .int p0)] := hl
  obtain ⟨hx, hb, hml, hown, hts, hr, hlk, hK, hZ⟩ := id X
  have w_1 := hts (.fieldLink RX0 22 "NineBreakages$House" "had" "[I") (by decide +kernel)
  have in0 : ∀ w ∈ u_ws RX0 TX0 16, w ∈ wsX0_isThrough := fun w q => List.mem_cons_of_mem _ (List.mem_append_right _ q)
  have w_3 := hts (.fieldLink RX0 19 "NineBreakages$House" "due" "[I") (by decide +kernel)
  unfold f_X0_isThrough at h
  refine lv_aload_n hx hb dX0_isThrough_0 rfl (lv_at hl 0 rfl) ?_
  refine va_get (v := .ref (ad 4)) (C := RX0) (T := TX0) (N := 16) hx hb hts in0 hown hK.1 hP 1 nb_a1 rfl 5 (by decide) w_1 (fun _ h9 => h9) rfl dX0_isThrough_1 ?_
  refine lv_iload_n hx hb dX0_isThrough_4 rfl (lv_at hl 1 rfl) ?_
  obtain ⟨c_1, h⟩ := nb_c h
  refine va_iald hx hb hK.1 hP 4 0 nb_a4 rfl c_1 dX0_isThrough_5 ?_
  refine lv_aload_n hx hb dX0_isThrough_6 rfl (lv_at hl 0 rfl) ?_
  refine va_get (v := .ref (ad 3)) (C := RX0) (T := TX0) (N := 16) hx hb hts in0 hown hK.1 hP 1 nb_a1 rfl 4 (by decide) w_3 (fun _ h9 => h9) rfl dX0_isThrough_7 ?_
  refine lv_iload_n hx hb dX0_isThrough_10 rfl (lv_at hl 1 rfl) ?_
  refine va_iald hx hb hK.1 hP 3 0 nb_a3 rfl c_1 dX0_isThrough_11 ?_
  refine lv_icmp_lt (tgt := 19) hx hb dX0_isThrough_12 (by decide) (fun c_2 => ?_) (fun c_2 => ?_)
  · have h := nb_t c_2 h
    refine lv_iconst (v := (0 : Int32)) hx hb dX0_isThrough_19 (by decide) ?_
    obtain rfl := nb_e1 h
    exact nb_zret (by decide) hx hb hr hlk hP hS dX0_isThrough_20
  · have h := nb_f c_2 h
    refine lv_iconst (v := (1 : Int32)) hx hb dX0_isThrough_15 (by decide) ?_
    refine lv_goto (tgt := 20) hx hb dX0_isThrough_16 (by decide) ?_
    obtain rfl := nb_e1 h
    exact nb_zret (by decide) hx hb hr hlk hP hS dX0_isThrough_20
set_option maxHeartbeats 4000000 in
set_option maxRecDepth 100000 in
theorem k_X6_bit (had : nb_AD ad b0) (M N : nb_M) (p0 : Int32) : nb_C l D ad ca b0 yX6_bit wsX6_bit 0 [.int p0] M N (some (.int (f_X6_bit p0))) M N := by
  obtain ⟨r, h⟩ : ∃ r, f_X6_bit p0 = r := ⟨_, rfl⟩
  rw [h]
  refine nb_of (cc := cX6_bit) (maxL := 1) (ret := (some .int)) (own := RX6) (by decide +kernel) rfl rfl (Nat.le_of_ble_eq_true rfl) ?_
  intro p e s m args below meth c ls X hP hS hl
  have hl : lv_has ls 1 [(0, .int p0)] := hl
  obtain ⟨hx, hb, hml, hown, hts, hr, hlk, hK, hZ⟩ := id X
  unfold f_X6_bit at h
  refine lv_iload_n hx hb dX6_bit_0 rfl (lv_at hl 0 rfl) ?_
  refine lv_if_eq (tgt := 8) hx hb dX6_bit_1 (by decide) (fun c_1 => ?_) (fun c_1 => ?_)
  · have h := nb_t c_1 h
    refine lv_iconst (v := (0 : Int32)) hx hb dX6_bit_8 (by decide) ?_
    obtain rfl := nb_e3 h
    exact nb_iret hx hb hr hlk hP hS dX6_bit_9
  · have h := nb_f c_1 h
    refine lv_iconst (v := (1 : Int32)) hx hb dX6_bit_4 (by decide) ?_
    refine lv_goto (tgt := 9) hx hb dX6_bit_5 (by decide) ?_
    obtain rfl := nb_e3 h
    exact nb_iret hx hb hr hlk hP hS dX6_bit_9
set_option maxHeartbeats 4000000 in
set_option maxRecDepth 100000 in
theorem k_X0_toComeOf {r : Int32} (had : nb_AD ad b0) (M N : nb_M) (p0 : Int32) (h : f_X0_toComeOf M p0 = some r) : nb_C l D ad ca b0 yX0_toComeOf wsX0_toComeOf 1 [.ref (ad 1), .int p0] M N (some (.int r)) M N := by
  refine nb_of (cc := cX0_toComeOf) (maxL := 2) (ret := (some .int)) (own := RX0) (by decide +kernel) rfl rfl (Nat.le_of_ble_eq_true rfl) ?_
  intro p e s m args below meth c ls X hP hS hl
  have hl : lv_has ls 2 [(0, .ref (ad 1)), (1, .int p0)] := hl
  obtain ⟨hx, hb, hml, hown, hts, hr, hlk, hK, hZ⟩ := id X
  have w_1 := hts (.fieldLink RX0 19 "NineBreakages$House" "due" "[I") (by decide +kernel)
  have in0 : ∀ w ∈ u_ws RX0 TX0 16, w ∈ wsX0_toComeOf := fun w q => List.mem_cons_of_mem _ (List.mem_append_right _ q)
  have w_3 := hts (.fieldLink RX0 22 "NineBreakages$House" "had" "[I") (by decide +kernel)
  have w_4 := hts (.methodLink RX0 89 Lib.Math.max.name) (by decide +kernel)
  have w_5 := hts (.static Lib.Math.max.name) (by decide +kernel)
  have w_6 := hts (.initialized "java/lang/Math") (by decide +kernel)
  have w_7 := hts (.code Lib.Math.max.name Lib.Math.max.code 2 (some .int)) (by decide +kernel)
  unfold f_X0_toComeOf at h
  refine lv_iconst (v := (0 : Int32)) hx hb dX0_toComeOf_0 (by decide) ?_
  refine lv_aload_n hx hb dX0_toComeOf_1 rfl (lv_at hl 0 rfl) ?_
  refine va_get (v := .ref (ad 3)) (C := RX0) (T := TX0) (N := 16) hx hb hts in0 hown hK.1 hP 1 nb_a1 rfl 4 (by decide) w_1 (fun _ h9 => h9) rfl dX0_toComeOf_2 ?_
  refine lv_iload_n hx hb dX0_toComeOf_5 rfl (lv_at hl 1 rfl) ?_
  obtain ⟨c_1, h⟩ := nb_c h
  refine va_iald hx hb hK.1 hP 3 0 nb_a3 rfl c_1 dX0_toComeOf_6 ?_
  refine lv_aload_n hx hb dX0_toComeOf_7 rfl (lv_at hl 0 rfl) ?_
  refine va_get (v := .ref (ad 4)) (C := RX0) (T := TX0) (N := 16) hx hb hts in0 hown hK.1 hP 1 nb_a1 rfl 5 (by decide) w_3 (fun _ h9 => h9) rfl dX0_toComeOf_8 ?_
  refine lv_iload_n hx hb dX0_toComeOf_11 rfl (lv_at hl 1 rfl) ?_
  refine va_iald hx hb hK.1 hP 4 0 nb_a4 rfl c_1 dX0_toComeOf_12 ?_
  refine lv_isub hx hb dX0_toComeOf_13 ?_
  refine va_mmax hx hb (by rw [hml, hl.1]) hown w_4 w_5 w_6 w_7 (Nat.le_of_ble_eq_true rfl) (Nat.le_of_ble_eq_true rfl) (Nat.zero_le _) (Nat.zero_le _) dX0_toComeOf_14 ?_
  obtain rfl := nb_e1 h
  exact nb_iret hx hb hr hlk hP hS dX0_toComeOf_17
set_option maxHeartbeats 4000000 in
set_option maxRecDepth 100000 in
theorem w_X0_shards_4 {N : nb_M} {r : Int32} (had : nb_AD ad b0) (X : nb_X p s m args meth c cX0_shards 3 RX0 (some .int) wsX0_shards D ca b0) : ∀ (n : Nat) (M : nb_M) (x1 : Int32) (x2 : Int32), f_X0_shards_4 n M x1 x2 = some r → ∀ (H : Heap) (locs : List Loc), va_P D vwCl (nb_w ad ca M N) H → va_S (fun q => b0 ≤ q) s.heap H locs → ∀ ls : Array Slot, lv_has ls 3 [(0, .ref (ad 1)), (1, .int x1), (2, .int x2)] → W p l e (nb_R 1) s m args below meth c H locs 0 0 (nb_Q below args s D ad ca b0 (some (.int r)) M N) (F0 m 4 ls []) := by
  obtain ⟨hx, hb, hml, hown, hts, hr, hlk, hK, hZ⟩ := id X
  obtain ⟨_, hN1, hN2, hN3, hN4, hN5, hN6⟩ := id hK
  have w_1 := hts (.fieldLink RX0 56 "NineBreakages$House" "pieces" "I") (by decide +kernel)
  have in0 : ∀ w ∈ u_ws RX0 TX0 16, w ∈ wsX0_shards := fun w q => List.mem_cons_of_mem _ (List.mem_append_right _ q)
  have w_3 := hts (.fieldLink RX0 34 "NineBreakages$House" "state" "[I") (by decide +kernel)
  have w_4 := hts (.initialized RX6) (by decide +kernel)
  have w_5 := hts (.static yX6_bit) (by decide +kernel)
  intro n
  induction n with
  | zero =>
    intro M x1 x2 h
    rw [f_X0_shards_4] at h
    cases h
  | succ n ih =>
    intro M x1 x2 h H locs hP hS ls hl
    rw [f_X0_shards_4] at h
    refine lv_iload_n hx hb dX0_shards_4 rfl (lv_at hl 2 rfl) ?_
    refine lv_aload_n hx hb dX0_shards_5 rfl (lv_at hl 0 rfl) ?_
    refine va_get (v := .int (M.1 1 6)) (C := RX0) (T := TX0) (N := 16) hx hb hts in0 hown hK.1 hP 1 nb_a1 rfl 6 (by decide) w_1 (fun _ h9 => h9) rfl dX0_shards_6 ?_
    refine lv_icmp_ge (tgt := 39) hx hb dX0_shards_9 (by decide) (fun c_1 => ?_) (fun c_1 => ?_)
    · have h := nb_t c_1 h
      refine lv_iload_n hx hb dX0_shards_39 rfl (lv_at hl 1 rfl) ?_
      obtain rfl := nb_e1 h
      exact nb_iret hx hb hr hlk hP hS dX0_shards_40
    · have h := nb_f c_1 h
      refine lv_iload_n hx hb dX0_shards_12 rfl (lv_at hl 1 rfl) ?_
      refine lv_aload_n hx hb dX0_shards_13 rfl (lv_at hl 0 rfl) ?_
      refine va_get (v := .ref (ad 8)) (C := RX0) (T := TX0) (N := 16) hx hb hts in0 hown hK.1 hP 1 nb_a1 rfl 10 (by decide) w_3 (fun _ h9 => h9) rfl dX0_shards_14 ?_
      refine lv_iload_n hx hb dX0_shards_17 rfl (lv_at hl 2 rfl) ?_
      obtain ⟨c_2, h⟩ := nb_c h
      refine va_iald hx hb hK.1 hP 8 0 nb_a8 rfl c_2 dX0_shards_18 ?_
      refine lv_iconst (v := (1 : Int32)) hx hb dX0_shards_19 (by decide) ?_
      refine lv_icmp_ne (tgt := 27) hx hb dX0_shards_20 (by decide) (fun c_3 => ?_) (fun c_3 => ?_)
      · have h := nb_f c_3 h
        refine lv_iconst (v := (0 : Int32)) hx hb dX0_shards_27 (by decide) ?_
        refine nb_callN (n := 1) (As := [.int (0 : Int32)]) (rest := [.int x1]) hx hb hml hown hts hK hZ hP hS (k_X6_bit had M N (0 : Int32)) gX0_shards_X6_bit_n85 rfl hN1 w_4 w_5 (by decide +kernel) (nb_rm (Nat.le_of_ble_eq_true rfl) (Nat.le_of_ble_eq_true rfl)) rfl hl.1 rfl (Nat.le_of_ble_eq_true rfl) dX0_shards_28 (fun H locs hP hS => ?_)
        refine W.eq (g2 := F0 m 31 ls [.int (f_X6_bit (0 : Int32)), .int x1]) rfl ?_
        refine lv_iadd hx hb dX0_shards_31 ?_
        refine lv_topi (fun v_5 e_5 => ?_)
        have h := nb_nA e_5 h
        refine lv_istore_n (lv' := [(1, .int v_5), (0, .ref (ad 1)), (2, .int x2)]) hx hb dX0_shards_32 rfl hl (by decide) rfl (fun ls hl => ?_)
        refine lv_iinc (v := x2 + 1) (lv' := [(2, .int (x2 + 1)), (1, .int v_5), (0, .ref (ad 1))]) hx hb dX0_shards_33 hl (k := 2) rfl (congrArg (HAdd.hAdd x2) (by decide)) (by decide) rfl (fun ls hl => ?_)
        refine lv_goto (tgt := 4) hx hb dX0_shards_36 (by decide) ?_
        exact ih _ _ _ h _ _ hP hS _ (lv_sub hl [2, 1, 0] rfl)
      · have h := nb_t c_3 h
        refine lv_iconst (v := (1 : Int32)) hx hb dX0_shards_23 (by decide) ?_
        refine lv_goto (tgt := 28) hx hb dX0_shards_24 (by decide) ?_
        refine nb_callN (n := 1) (As := [.int (1 : Int32)]) (rest := [.int x1]) hx hb hml hown hts hK hZ hP hS (k_X6_bit had M N (1 : Int32)) gX0_shards_X6_bit_n85 rfl hN1 w_4 w_5 (by decide +kernel) (nb_rm (Nat.le_of_ble_eq_true rfl) (Nat.le_of_ble_eq_true rfl)) rfl hl.1 rfl (Nat.le_of_ble_eq_true rfl) dX0_shards_28 (fun H locs hP hS => ?_)
        refine W.eq (g2 := F0 m 31 ls [.int (f_X6_bit (1 : Int32)), .int x1]) rfl ?_
        refine lv_iadd hx hb dX0_shards_31 ?_
        refine lv_topi (fun v_7 e_7 => ?_)
        have h := nb_nA e_7 h
        refine lv_istore_n (lv' := [(1, .int v_7), (0, .ref (ad 1)), (2, .int x2)]) hx hb dX0_shards_32 rfl hl (by decide) rfl (fun ls hl => ?_)
        refine lv_iinc (v := x2 + 1) (lv' := [(2, .int (x2 + 1)), (1, .int v_7), (0, .ref (ad 1))]) hx hb dX0_shards_33 hl (k := 2) rfl (congrArg (HAdd.hAdd x2) (by decide)) (by decide) rfl (fun ls hl => ?_)
        refine lv_goto (tgt := 4) hx hb dX0_shards_36 (by decide) ?_
        exact ih _ _ _ h _ _ hP hS _ (lv_sub hl [2, 1, 0] rfl)
set_option maxHeartbeats 4000000 in
set_option maxRecDepth 100000 in
theorem k_X0_shards {r : Int32} (had : nb_AD ad b0) (M N : nb_M) (h : f_X0_shards M = some r) : nb_C l D ad ca b0 yX0_shards wsX0_shards 1 [.ref (ad 1)] M N (some (.int r)) M N := by
  refine nb_of (cc := cX0_shards) (maxL := 3) (ret := (some .int)) (own := RX0) (by decide +kernel) rfl rfl (Nat.le_of_ble_eq_true rfl) ?_
  intro p e s m args below meth c ls X hP hS hl
  have hl : lv_has ls 3 [(0, .ref (ad 1))] := hl
  obtain ⟨hx, hb, hml, hown, hts, hr, hlk, hK, hZ⟩ := id X
  unfold f_X0_shards at h
  refine lv_iconst (v := (0 : Int32)) hx hb dX0_shards_0 (by decide) ?_
  refine lv_istore_n (lv' := [(1, .int (0 : Int32)), (0, .ref (ad 1))]) hx hb dX0_shards_1 rfl hl (by decide) rfl (fun ls hl => ?_)
  refine lv_iconst (v := (0 : Int32)) hx hb dX0_shards_2 (by decide) ?_
  refine lv_istore_n (lv' := [(2, .int (0 : Int32)), (1, .int (0 : Int32)), (0, .ref (ad 1))]) hx hb dX0_shards_3 rfl hl (by decide) rfl (fun ls hl => ?_)
  exact w_X0_shards_4 had X nb_F _ _ _ h _ _ hP hS _ (lv_sub hl [2, 1, 0] rfl)
set_option maxHeartbeats 4000000 in
set_option maxRecDepth 100000 in
theorem k_X3_isThere_12 (had : nb_AD ad b0) (M N : nb_M) : nb_C l D ad ca b0 yX3_isThere wsX3_isThere 0 [.ref (ad 12)] M N (some (.int (f_X3_isThere_12 M))) M N := by
  obtain ⟨r, h⟩ : ∃ r, f_X3_isThere_12 M = r := ⟨_, rfl⟩
  rw [h]
  refine nb_of (cc := cX3_isThere) (maxL := 1) (ret := (some .boolean)) (own := RX3) (by decide +kernel) rfl rfl (Nat.le_of_ble_eq_true rfl) ?_
  intro p e s m args below meth c ls X hP hS hl
  have hl : lv_has ls 1 [(0, .ref (ad 12))] := hl
  obtain ⟨hx, hb, hml, hown, hts, hr, hlk, hK, hZ⟩ := id X
  have w_1 := hts (.fieldLink RX3 18 "NineBreakages$Text" "stepped" "I") (by decide +kernel)
  have in3 : ∀ w ∈ u_ws RX3 TX3 3, w ∈ wsX3_isThere := fun w q => List.mem_cons_of_mem _ (List.mem_append_right _ q)
  unfold f_X3_isThere_12 at h
  refine lv_aload_n hx hb dX3_isThere_0 rfl (lv_at hl 0 rfl) ?_
  refine va_get (v := .int (M.1 12 1)) (C := RX3) (T := TX3) (N := 3) hx hb hts in3 hown hK.1 hP 12 nb_a12 rfl 1 (by decide) w_1 (fun _ h9 => h9) rfl dX3_isThere_1 ?_
  refine lv_if_le (tgt := 11) hx hb dX3_isThere_4 (by decide) (fun c_1 => ?_) (fun c_1 => ?_)
  · have h := nb_t c_1 h
    refine lv_iconst (v := (0 : Int32)) hx hb dX3_isThere_11 (by decide) ?_
    obtain rfl := nb_e3 h
    exact nb_zret (by decide) hx hb hr hlk hP hS dX3_isThere_12
  · have h := nb_f c_1 h
    refine lv_iconst (v := (1 : Int32)) hx hb dX3_isThere_7 (by decide) ?_
    refine lv_goto (tgt := 12) hx hb dX3_isThere_8 (by decide) ?_
    obtain rfl := nb_e3 h
    exact nb_zret (by decide) hx hb hr hlk hP hS dX3_isThere_12
set_option maxHeartbeats 4000000 in
set_option maxRecDepth 100000 in
theorem k_X6_held (had : nb_AD ad b0) (M N : nb_M) (p0 : Int32) (p1 : Int32) : nb_C l D ad ca b0 yX6_held wsX6_held 1 [.int p0, .int p1] M N (some (.int (f_X6_held p0 p1))) M N := by
  obtain ⟨r, h⟩ : ∃ r, f_X6_held p0 p1 = r := ⟨_, rfl⟩
  rw [h]
  refine nb_of (cc := cX6_held) (maxL := 2) (ret := (some .int)) (own := RX6) (by decide +kernel) rfl rfl (Nat.le_of_ble_eq_true rfl) ?_
  intro p e s m args below meth c ls X hP hS hl
  have hl : lv_has ls 2 [(0, .int p0), (1, .int p1)] := hl
  obtain ⟨hx, hb, hml, hown, hts, hr, hlk, hK, hZ⟩ := id X
  have w_1 := hts (.methodLink RX6 299 Lib.Math.min.name) (by decide +kernel)
  have w_2 := hts (.static Lib.Math.min.name) (by decide +kernel)
  have w_3 := hts (.initialized "java/lang/Math") (by decide +kernel)
  have w_4 := hts (.code Lib.Math.min.name Lib.Math.min.code 2 (some .int)) (by decide +kernel)
  have w_5 := hts (.methodLink RX6 304 Lib.Math.max.name) (by decide +kernel)
  have w_6 := hts (.static Lib.Math.max.name) (by decide +kernel)
  have w_7 := hts (.code Lib.Math.max.name Lib.Math.max.code 2 (some .int)) (by decide +kernel)
  unfold f_X6_held at h
  refine lv_iconst (v := (0 : Int32)) hx hb dX6_held_0 (by decide) ?_
  refine lv_iload_n hx hb dX6_held_1 rfl (lv_at hl 1 rfl) ?_
  refine lv_iload_n hx hb dX6_held_2 rfl (lv_at hl 0 rfl) ?_
  refine va_mmin hx hb (by rw [hml, hl.1]) hown w_1 w_2 w_3 w_4 (Nat.le_of_ble_eq_true rfl) (Nat.le_of_ble_eq_true rfl) (Nat.zero_le _) (Nat.zero_le _) dX6_held_3 ?_
  refine va_mmax hx hb (by rw [hml, hl.1]) hown w_5 w_6 w_3 w_7 (Nat.le_of_ble_eq_true rfl) (Nat.le_of_ble_eq_true rfl) (Nat.zero_le _) (Nat.zero_le _) dX6_held_6 ?_
  obtain rfl := nb_e3 h
  exact nb_iret hx hb hr hlk hP hS dX6_held_9
set_option maxHeartbeats 4000000 in
set_option maxRecDepth 100000 in
theorem k_X3_joined {r : Int32} (had : nb_AD ad b0) (M N : nb_M) (p0 : Int32) (p1 : Int32) (p2 : Int32) (h : f_X3_joined p0 p1 p2 = some r) : nb_C l D ad ca b0 yX3_joined wsX3_joined 0 [.int p0, .int p1, .int p2] M N (some (.int r)) M N := by
  refine nb_of (cc := cX3_joined) (maxL := 3) (ret := (some .int)) (own := RX3) (by decide +kernel) rfl rfl (Nat.le_of_ble_eq_true rfl) ?_
  intro p e s m args below meth c ls X hP hS hl
  have hl : lv_has ls 3 [(0, .int p0), (1, .int p1), (2, .int p2)] := hl
  obtain ⟨hx, hb, hml, hown, hts, hr, hlk, hK, hZ⟩ := id X
  unfold f_X3_joined at h
  refine lv_iload_n hx hb dX3_joined_0 rfl (lv_at hl 0 rfl) ?_
  refine nb_tsw [(37, 144), (38, 189), (42, 128), (43, 120), (45, 124), (47, 132), (60, 156), (61, 167), (62, 178)] 203 hx hb dX3_joined_1 (by decide +kernel) ?_
  refine nb_split (fun c_1 => ?_) (fun c_1 => ?_)
  · have h := nb_t c_1 h
    refine lv_iload_n hx hb dX3_joined_144 rfl (lv_at hl 2 rfl) ?_
    refine lv_if_ne (tgt := 152) hx hb dX3_joined_145 (by decide) (fun c_2 => ?_) (fun c_2 => ?_)
    · have h := nb_f c_2 h
      refine lv_iload_n hx hb dX3_joined_152 rfl (lv_at hl 1 rfl) ?_
      refine lv_iload_n hx hb dX3_joined_153 rfl (lv_at hl 2 rfl) ?_
      obtain ⟨c_3, h⟩ := nb_c h
      refine lv_irem hx hb dX3_joined_154 c_3 ?_
      obtain rfl := nb_e1 h
      exact nb_iret hx hb hr hlk hP hS dX3_joined_155
    · have h := nb_t c_2 h
      refine lv_iconst (v := (0 : Int32)) hx hb dX3_joined_148 (by decide) ?_
      refine lv_goto (tgt := 155) hx hb dX3_joined_149 (by decide) ?_
      obtain rfl := nb_e1 h
      exact nb_iret hx hb hr hlk hP hS dX3_joined_155
  · have h := nb_f c_1 h
    refine nb_split (fun c_4 => ?_) (fun c_4 => ?_)
    · have h := nb_t c_4 h
      refine lv_iload_n hx hb dX3_joined_189 rfl (lv_at hl 1 rfl) ?_
      refine lv_if_eq (tgt := 201) hx hb dX3_joined_190 (by decide) (fun c_5 => ?_) (fun c_5 => ?_)
      · have h := nb_t c_5 h
        refine lv_iconst (v := (0 : Int32)) hx hb dX3_joined_201 (by decide) ?_
        obtain rfl := nb_e1 h
        exact nb_iret hx hb hr hlk hP hS dX3_joined_202
      · have h := nb_f c_5 h
        refine lv_iload_n hx hb dX3_joined_193 rfl (lv_at hl 2 rfl) ?_
        refine lv_if_eq (tgt := 201) hx hb dX3_joined_194 (by decide) (fun c_6 => ?_) (fun c_6 => ?_)
        · have h := nb_t c_6 h
          refine lv_iconst (v := (0 : Int32)) hx hb dX3_joined_201 (by decide) ?_
          obtain rfl := nb_e1 h
          exact nb_iret hx hb hr hlk hP hS dX3_joined_202
        · have h := nb_f c_6 h
          refine lv_iconst (v := (1 : Int32)) hx hb dX3_joined_197 (by decide) ?_
          refine lv_goto (tgt := 202) hx hb dX3_joined_198 (by decide) ?_
          obtain rfl := nb_e1 h
          exact nb_iret hx hb hr hlk hP hS dX3_joined_202
    · have h := nb_f c_4 h
      refine nb_split (fun c_7 => ?_) (fun c_7 => ?_)
      · have h := nb_t c_7 h
        refine lv_iload_n hx hb dX3_joined_128 rfl (lv_at hl 1 rfl) ?_
        refine lv_iload_n hx hb dX3_joined_129 rfl (lv_at hl 2 rfl) ?_
        refine lv_imul hx hb dX3_joined_130 ?_
        obtain rfl := nb_e1 h
        exact nb_iret hx hb hr hlk hP hS dX3_joined_131
      · have h := nb_f c_7 h
        refine nb_split (fun c_8 => ?_) (fun c_8 => ?_)
        · have h := nb_t c_8 h
          refine lv_iload_n hx hb dX3_joined_120 rfl (lv_at hl 1 rfl) ?_
          refine lv_iload_n hx hb dX3_joined_121 rfl (lv_at hl 2 rfl) ?_
          refine lv_iadd hx hb dX3_joined_122 ?_
          obtain rfl := nb_e1 h
          exact nb_iret hx hb hr hlk hP hS dX3_joined_123
        · have h := nb_f c_8 h
          refine nb_split (fun c_9 => ?_) (fun c_9 => ?_)
          · have h := nb_t c_9 h
            refine lv_iload_n hx hb dX3_joined_124 rfl (lv_at hl 1 rfl) ?_
            refine lv_iload_n hx hb dX3_joined_125 rfl (lv_at hl 2 rfl) ?_
            refine lv_isub hx hb dX3_joined_126 ?_
            obtain rfl := nb_e1 h
            exact nb_iret hx hb hr hlk hP hS dX3_joined_127
          · have h := nb_f c_9 h
            refine nb_split (fun c_10 => ?_) (fun c_10 => ?_)
            · have h := nb_t c_10 h
              refine lv_iload_n hx hb dX3_joined_132 rfl (lv_at hl 2 rfl) ?_
              refine lv_if_ne (tgt := 140) hx hb dX3_joined_133 (by decide) (fun c_11 => ?_) (fun c_11 => ?_)
              · have h := nb_f c_11 h
                refine lv_iload_n hx hb dX3_joined_140 rfl (lv_at hl 1 rfl) ?_
                refine lv_iload_n hx hb dX3_joined_141 rfl (lv_at hl 2 rfl) ?_
                obtain ⟨c_12, h⟩ := nb_c h
                refine lv_idiv hx hb dX3_joined_142 c_12 ?_
                obtain rfl := nb_e1 h
                exact nb_iret hx hb hr hlk hP hS dX3_joined_143
              · have h := nb_t c_11 h
                refine lv_iconst (v := (0 : Int32)) hx hb dX3_joined_136 (by decide) ?_
                refine lv_goto (tgt := 143) hx hb dX3_joined_137 (by decide) ?_
                obtain rfl := nb_e1 h
                exact nb_iret hx hb hr hlk hP hS dX3_joined_143
            · have h := nb_f c_10 h
              refine nb_split (fun c_13 => ?_) (fun c_13 => ?_)
              · have h := nb_t c_13 h
                refine lv_iload_n hx hb dX3_joined_156 rfl (lv_at hl 1 rfl) ?_
                refine lv_iload_n hx hb dX3_joined_157 rfl (lv_at hl 2 rfl) ?_
                refine lv_icmp_ge (tgt := 165) hx hb dX3_joined_158 (by decide) (fun c_14 => ?_) (fun c_14 => ?_)
                · have h := nb_t c_14 h
                  refine lv_iconst (v := (0 : Int32)) hx hb dX3_joined_165 (by decide) ?_
                  obtain rfl := nb_e1 h
                  exact nb_iret hx hb hr hlk hP hS dX3_joined_166
                · have h := nb_f c_14 h
                  refine lv_iconst (v := (1 : Int32)) hx hb dX3_joined_161 (by decide) ?_
                  refine lv_goto (tgt := 166) hx hb dX3_joined_162 (by decide) ?_
                  obtain rfl := nb_e1 h
                  exact nb_iret hx hb hr hlk hP hS dX3_joined_166
              · have h := nb_f c_13 h
                refine nb_split (fun c_15 => ?_) (fun c_15 => ?_)
                · have h := nb_t c_15 h
                  refine lv_iload_n hx hb dX3_joined_167 rfl (lv_at hl 1 rfl) ?_
                  refine lv_iload_n hx hb dX3_joined_168 rfl (lv_at hl 2 rfl) ?_
                  refine lv_icmp_ne (tgt := 176) hx hb dX3_joined_169 (by decide) (fun c_16 => ?_) (fun c_16 => ?_)
                  · have h := nb_f c_16 h
                    refine lv_iconst (v := (0 : Int32)) hx hb dX3_joined_176 (by decide) ?_
                    obtain rfl := nb_e1 h
                    exact nb_iret hx hb hr hlk hP hS dX3_joined_177
                  · have h := nb_t c_16 h
                    refine lv_iconst (v := (1 : Int32)) hx hb dX3_joined_172 (by decide) ?_
                    refine lv_goto (tgt := 177) hx hb dX3_joined_173 (by decide) ?_
                    obtain rfl := nb_e1 h
                    exact nb_iret hx hb hr hlk hP hS dX3_joined_177
                · have h := nb_f c_15 h
                  refine nb_split (fun c_17 => ?_) (fun c_17 => ?_)
                  · have h := nb_t c_17 h
                    refine lv_iload_n hx hb dX3_joined_178 rfl (lv_at hl 1 rfl) ?_
                    refine lv_iload_n hx hb dX3_joined_179 rfl (lv_at hl 2 rfl) ?_
                    refine lv_icmp_le (tgt := 187) hx hb dX3_joined_180 (by decide) (fun c_18 => ?_) (fun c_18 => ?_)
                    · have h := nb_t c_18 h
                      refine lv_iconst (v := (0 : Int32)) hx hb dX3_joined_187 (by decide) ?_
                      obtain rfl := nb_e1 h
                      exact nb_iret hx hb hr hlk hP hS dX3_joined_188
                    · have h := nb_f c_18 h
                      refine lv_iconst (v := (1 : Int32)) hx hb dX3_joined_183 (by decide) ?_
                      refine lv_goto (tgt := 188) hx hb dX3_joined_184 (by decide) ?_
                      obtain rfl := nb_e1 h
                      exact nb_iret hx hb hr hlk hP hS dX3_joined_188
                  · have h := nb_f c_17 h
                    refine W.eq (g2 := F0 m 203 ls []) rfl ?_
                    refine lv_iload_n hx hb dX3_joined_203 rfl (lv_at hl 1 rfl) ?_
                    refine lv_if_ne (tgt := 211) hx hb dX3_joined_204 (by decide) (fun c_19 => ?_) (fun c_19 => ?_)
                    · have h := nb_f c_19 h
                      refine lv_iconst (v := (1 : Int32)) hx hb dX3_joined_211 (by decide) ?_
                      refine lv_goto (tgt := 216) hx hb dX3_joined_212 (by decide) ?_
                      obtain rfl := nb_e1 h
                      exact nb_iret hx hb hr hlk hP hS dX3_joined_216
                    · have h := nb_t c_19 h
                      refine lv_iload_n hx hb dX3_joined_207 rfl (lv_at hl 2 rfl) ?_
                      refine lv_if_eq (tgt := 215) hx hb dX3_joined_208 (by decide) (fun c_20 => ?_) (fun c_20 => ?_)
                      · have h := nb_t c_20 h
                        refine lv_iconst (v := (0 : Int32)) hx hb dX3_joined_215 (by decide) ?_
                        obtain rfl := nb_e1 h
                        exact nb_iret hx hb hr hlk hP hS dX3_joined_216
                      · have h := nb_f c_20 h
                        refine lv_iconst (v := (1 : Int32)) hx hb dX3_joined_211 (by decide) ?_
                        refine lv_goto (tgt := 216) hx hb dX3_joined_212 (by decide) ?_
                        obtain rfl := nb_e1 h
                        exact nb_iret hx hb hr hlk hP hS dX3_joined_216
set_option maxHeartbeats 4000000 in
set_option maxRecDepth 100000 in
theorem k_X3_named (had : nb_AD ad b0) (M N : nb_M) (p0 : Int32) (p1 : Int32) (p2 : Int32) (p3 : Int32) : nb_C l D ad ca b0 yX3_named wsX3_named 0 [.int p0, .int p1, .int p2, .int p3] M N (some (.int (f_X3_named p0 p1 p2 p3))) M N := by
  obtain ⟨r, h⟩ : ∃ r, f_X3_named p0 p1 p2 p3 = r := ⟨_, rfl⟩
  rw [h]
  refine nb_of (cc := cX3_named) (maxL := 4) (ret := (some .int)) (own := RX3) (by decide +kernel) rfl rfl (Nat.le_of_ble_eq_true rfl) ?_
  intro p e s m args below meth c ls X hP hS hl
  have hl : lv_has ls 4 [(0, .int p0), (1, .int p1), (2, .int p2), (3, .int p3)] := hl
  obtain ⟨hx, hb, hml, hown, hts, hr, hlk, hK, hZ⟩ := id X
  unfold f_X3_named at h
  refine lv_iload_n hx hb dX3_named_0 rfl (lv_at hl 0 rfl) ?_
  refine lv_if_ne (tgt := 8) hx hb dX3_named_1 (by decide) (fun c_1 => ?_) (fun c_1 => ?_)
  · have h := nb_f c_1 h
    refine lv_iload_n hx hb dX3_named_8 rfl (lv_at hl 0 rfl) ?_
    refine lv_iconst (v := (1 : Int32)) hx hb dX3_named_9 (by decide) ?_
    refine lv_icmp_ne (tgt := 17) hx hb dX3_named_10 (by decide) (fun c_2 => ?_) (fun c_2 => ?_)
    · have h := nb_f c_2 h
      refine lv_iload_n hx hb dX3_named_17 rfl (lv_at hl 3 rfl) ?_
      obtain rfl := nb_e3 h
      exact nb_iret hx hb hr hlk hP hS dX3_named_18
    · have h := nb_t c_2 h
      refine lv_iload_n hx hb dX3_named_13 rfl (lv_at hl 2 rfl) ?_
      refine lv_goto (tgt := 18) hx hb dX3_named_14 (by decide) ?_
      obtain rfl := nb_e3 h
      exact nb_iret hx hb hr hlk hP hS dX3_named_18
  · have h := nb_t c_1 h
    refine lv_iload_n hx hb dX3_named_4 rfl (lv_at hl 1 rfl) ?_
    refine lv_goto (tgt := 18) hx hb dX3_named_5 (by decide) ?_
    obtain rfl := nb_e3 h
    exact nb_iret hx hb hr hlk hP hS dX3_named_18
set_option maxHeartbeats 4000000 in
set_option maxRecDepth 100000 in
theorem w_X3_workOut_12_6 {N : nb_M} {r : Int32} {M' : nb_M} (had : nb_AD ad b0) (X : nb_X p s m args meth c cX3_workOut 7 RX3 (some .int) wsX3_workOut D ca b0) : ∀ (n : Nat) (M : nb_M) (x1 : Int32) (x2 : Int32) (x3 : Int32) (x4 : Int32) (x5 : Int32), f_X3_workOut_12_6 n M x1 x2 x3 x4 x5 = some (r, M') → ∀ (H : Heap) (locs : List Loc), va_P D vwCl (nb_w ad ca M N) H → va_S (fun q => b0 ≤ q) s.heap H locs → ∀ ls : Array Slot, lv_has ls 7 [(0, .ref (ad 12)), (1, .int x1), (2, .int x2), (3, .int x3), (4, .int x4), (5, .int x5)] → W p l e (nb_R 1) s m args below meth c H locs 0 0 (nb_Q below args s D ad ca b0 (some (.int r)) M' N) (F0 m 6 ls []) := by
  obtain ⟨hx, hb, hml, hown, hts, hr, hlk, hK, hZ⟩ := id X
  have w_1 := hts (.fieldLink RX3 18 "NineBreakages$Text" "stepped" "I") (by decide +kernel)
  have in3 : ∀ w ∈ u_ws RX3 TX3 3, w ∈ wsX3_workOut := fun w q => List.mem_cons_of_mem _ (List.mem_append_right _ q)
  have w_3 := hts (.fieldLink RX3 15 "NineBreakages$Text" "stack" "[I") (by decide +kernel)
  have w_4 := hts (.fieldLink RX3 9 "NineBreakages$Text" "steps" "[I") (by decide +kernel)
  intro n
  induction n with
  | zero =>
    intro M x1 x2 x3 x4 x5 h
    rw [f_X3_workOut_12_6] at h
    cases h
  | succ n ih =>
    intro M x1 x2 x3 x4 x5 h H locs hP hS ls hl
    rw [f_X3_workOut_12_6] at h
    refine lv_iload hx hb dX3_workOut_6 (lv_at hl 5 rfl) ?_
    refine lv_aload_n hx hb dX3_workOut_8 rfl (lv_at hl 0 rfl) ?_
    refine va_get (v := .int (M.1 12 1)) (C := RX3) (T := TX3) (N := 3) hx hb hts in3 hown hK.1 hP 12 nb_a12 rfl 1 (by decide) w_1 (fun _ h9 => h9) rfl dX3_workOut_9 ?_
    refine lv_icmp_ge (tgt := 169) hx hb dX3_workOut_12 (by decide) (fun c_1 => ?_) (fun c_1 => ?_)
    · have h := nb_t c_1 h
      refine lv_aload_n hx hb dX3_workOut_169 rfl (lv_at hl 0 rfl) ?_
      refine va_get (v := .ref (ad 14)) (C := RX3) (T := TX3) (N := 3) hx hb hts in3 hown hK.1 hP 12 nb_a12 rfl 2 (by decide) w_3 (fun _ h9 => h9) rfl dX3_workOut_170 ?_
      refine lv_iconst (v := (0 : Int32)) hx hb dX3_workOut_173 (by decide) ?_
      refine va_iald hx hb hK.1 hP 14 0 nb_a14 rfl (nb_lit rfl) dX3_workOut_174 ?_
      obtain ⟨rfl, rfl⟩ := nb_e2 h
      exact nb_iret hx hb hr hlk hP hS dX3_workOut_175
    · have h := nb_f c_1 h
      refine lv_aload_n hx hb dX3_workOut_15 rfl (lv_at hl 0 rfl) ?_
      refine va_get (v := .ref (ad 13)) (C := RX3) (T := TX3) (N := 3) hx hb hts in3 hown hK.1 hP 12 nb_a12 rfl 0 (by decide) w_4 (fun _ h9 => h9) rfl dX3_workOut_16 ?_
      refine lv_iload hx hb dX3_workOut_19 (lv_at hl 5 rfl) ?_
      obtain ⟨c_2, h⟩ := nb_c h
      refine va_iald hx hb hK.1 hP 13 0 nb_a13 rfl c_2 dX3_workOut_21 ?_
      refine lv_topi (fun v_3 e_3 => ?_)
      have h := nb_nA e_3 h
      refine lv_istore (lv' := [(6, .int v_3), (0, .ref (ad 12)), (1, .int x1), (2, .int x2), (3, .int x3), (4, .int x4), (5, .int x5)]) hx hb dX3_workOut_22 hl (by decide) rfl (fun ls hl => ?_)
      refine lv_iload hx hb dX3_workOut_24 (lv_at hl 0 rfl) ?_
      refine lv_sipush (v := (20000 : Int32)) hx hb dX3_workOut_26 (by decide) ?_
      refine lv_icmp_ge (tgt := 77) hx hb dX3_workOut_29 (by decide) (fun c_4 => ?_) (fun c_4 => ?_)
      · have h := nb_t c_4 h
        refine lv_iload hx hb dX3_workOut_77 (lv_at hl 0 rfl) ?_
        refine lv_sipush (v := (20033 : Int32)) hx hb dX3_workOut_79 (by decide) ?_
        refine lv_icmp_ne (tgt := 120) hx hb dX3_workOut_82 (by decide) (fun c_5 => ?_) (fun c_5 => ?_)
        · have h := nb_f c_5 h
          refine lv_iload hx hb dX3_workOut_120 (lv_at hl 5 rfl) ?_
          refine lv_iconst (v := (2 : Int32)) hx hb dX3_workOut_122 (by decide) ?_
          refine lv_icmp_lt (tgt := 163) hx hb dX3_workOut_123 (by decide) (fun c_6 => ?_) (fun c_6 => ?_)
          · have h := nb_t c_6 h
            refine lv_iinc (v := x5 + 1) (lv' := [(5, .int (x5 + 1)), (6, .int v_3), (0, .ref (ad 12)), (1, .int x1), (2, .int x2), (3, .int x3), (4, .int x4)]) hx hb dX3_workOut_163 hl (k := 6) rfl (congrArg (HAdd.hAdd x5) (by decide)) (by decide) rfl (fun ls hl => ?_)
            refine lv_goto (tgt := 6) hx hb dX3_workOut_166 (by decide) ?_
            exact ih _ _ _ _ _ _ h _ _ hP hS _ (lv_sub hl [2, 3, 4, 5, 6, 0] rfl)
          · have h := nb_f c_6 h
            refine lv_iinc (v := x4 + (-1)) (lv' := [(4, .int (x4 + (-1))), (6, .int v_3), (0, .ref (ad 12)), (1, .int x1), (2, .int x2), (3, .int x3), (5, .int x5)]) hx hb dX3_workOut_126 hl (k := 5) rfl (congrArg (HAdd.hAdd x4) (by decide)) (by decide) rfl (fun ls hl => ?_)
            refine lv_aload_n hx hb dX3_workOut_129 rfl (lv_at hl 2 rfl) ?_
            refine va_get (v := .ref (ad 14)) (C := RX3) (T := TX3) (N := 3) hx hb hts in3 hown hK.1 hP 12 nb_a12 rfl 2 (by decide) w_3 (fun _ h9 => h9) rfl dX3_workOut_130 ?_
            refine lv_iload hx hb dX3_workOut_133 (lv_at hl 0 rfl) ?_
            refine lv_iconst (v := (1 : Int32)) hx hb dX3_workOut_135 (by decide) ?_
            refine lv_isub hx hb dX3_workOut_136 ?_
            refine lv_iload hx hb dX3_workOut_137 (lv_at hl 1 rfl) ?_
            refine lv_sipush (v := (20000 : Int32)) hx hb dX3_workOut_139 (by decide) ?_
            refine lv_isub hx hb dX3_workOut_142 ?_
            refine lv_aload_n hx hb dX3_workOut_143 rfl (lv_at hl 2 rfl) ?_
            refine va_get (v := .ref (ad 14)) (C := RX3) (T := TX3) (N := 3) hx hb hts in3 hown hK.1 hP 12 nb_a12 rfl 2 (by decide) w_3 (fun _ h9 => h9) rfl dX3_workOut_144 ?_
            refine lv_iload hx hb dX3_workOut_147 (lv_at hl 0 rfl) ?_
            refine lv_iconst (v := (1 : Int32)) hx hb dX3_workOut_149 (by decide) ?_
            refine lv_isub hx hb dX3_workOut_150 ?_
            obtain ⟨c_7, h⟩ := nb_c h
            refine va_iald hx hb hK.1 hP 14 0 nb_a14 rfl c_7 dX3_workOut_151 ?_
            refine lv_aload_n hx hb dX3_workOut_152 rfl (lv_at hl 2 rfl) ?_
            refine va_get (v := .ref (ad 14)) (C := RX3) (T := TX3) (N := 3) hx hb hts in3 hown hK.1 hP 12 nb_a12 rfl 2 (by decide) w_3 (fun _ h9 => h9) rfl dX3_workOut_153 ?_
            refine lv_iload hx hb dX3_workOut_156 (lv_at hl 0 rfl) ?_
            obtain ⟨c_8, h⟩ := nb_c h
            refine va_iald hx hb hK.1 hP 14 0 nb_a14 rfl c_8 dX3_workOut_158 ?_
            obtain ⟨r_9, e_9, h⟩ := nb_oE h
            refine nb_callS (n := 3) (As := [.int (v_3 - (20000 : Int32)), .int (M.1 14 ((x4 + (-1)) - (1 : Int32)).toNatClampNeg), .int (M.1 14 (x4 + (-1)).toNatClampNeg)]) (rest := [.int ((x4 + (-1)) - (1 : Int32)), .ref (ad 14)]) hx hb hml hown hts hK hZ hP hS (k_X3_joined had M N (v_3 - (20000 : Int32)) (M.1 14 ((x4 + (-1)) - (1 : Int32)).toNatClampNeg) (M.1 14 (x4 + (-1)).toNatClampNeg) e_9) gX3_workOut_X3_joined rfl (by decide +kernel) (nb_rm (Nat.le_of_ble_eq_true rfl) (Nat.le_of_ble_eq_true rfl)) rfl hl.1 rfl (Nat.le_of_ble_eq_true rfl) dX3_workOut_159 (fun H locs hP hS => ?_)
            refine W.eq (g2 := F0 m 162 ls [.int r_9, .int ((x4 + (-1)) - (1 : Int32)), .ref (ad 14)]) rfl ?_
            refine nb_iast hx hb had hK hP hS nb_a14 c_7 (nb_t14 _ _) dX3_workOut_162 (fun H locs hP hS => ?_)
            obtain ⟨M_10, e_10, h⟩ := nb_nE h
            rw [e_10] at hP
            refine lv_iinc (v := x5 + 1) (lv' := [(5, .int (x5 + 1)), (4, .int (x4 + (-1))), (6, .int v_3), (0, .ref (ad 12)), (1, .int x1), (2, .int x2), (3, .int x3)]) hx hb dX3_workOut_163 hl (k := 6) rfl (congrArg (HAdd.hAdd x5) (by decide)) (by decide) rfl (fun ls hl => ?_)
            refine lv_goto (tgt := 6) hx hb dX3_workOut_166 (by decide) ?_
            exact ih _ _ _ _ _ _ h _ _ hP hS _ (lv_sub hl [3, 4, 5, 6, 1, 0] rfl)
        · have h := nb_t c_5 h
          refine lv_iload hx hb dX3_workOut_85 (lv_at hl 5 rfl) ?_
          refine lv_iconst (v := (1 : Int32)) hx hb dX3_workOut_87 (by decide) ?_
          refine lv_icmp_lt (tgt := 120) hx hb dX3_workOut_88 (by decide) (fun c_11 => ?_) (fun c_11 => ?_)
          · have h := nb_t c_11 h
            refine lv_iload hx hb dX3_workOut_120 (lv_at hl 5 rfl) ?_
            refine lv_iconst (v := (2 : Int32)) hx hb dX3_workOut_122 (by decide) ?_
            refine lv_icmp_lt (tgt := 163) hx hb dX3_workOut_123 (by decide) (fun c_12 => ?_) (fun c_12 => ?_)
            · have h := nb_t c_12 h
              refine lv_iinc (v := x5 + 1) (lv' := [(5, .int (x5 + 1)), (6, .int v_3), (0, .ref (ad 12)), (1, .int x1), (2, .int x2), (3, .int x3), (4, .int x4)]) hx hb dX3_workOut_163 hl (k := 6) rfl (congrArg (HAdd.hAdd x5) (by decide)) (by decide) rfl (fun ls hl => ?_)
              refine lv_goto (tgt := 6) hx hb dX3_workOut_166 (by decide) ?_
              exact ih _ _ _ _ _ _ h _ _ hP hS _ (lv_sub hl [2, 3, 4, 5, 6, 0] rfl)
            · have h := nb_f c_12 h
              refine lv_iinc (v := x4 + (-1)) (lv' := [(4, .int (x4 + (-1))), (6, .int v_3), (0, .ref (ad 12)), (1, .int x1), (2, .int x2), (3, .int x3), (5, .int x5)]) hx hb dX3_workOut_126 hl (k := 5) rfl (congrArg (HAdd.hAdd x4) (by decide)) (by decide) rfl (fun ls hl => ?_)
              refine lv_aload_n hx hb dX3_workOut_129 rfl (lv_at hl 2 rfl) ?_
              refine va_get (v := .ref (ad 14)) (C := RX3) (T := TX3) (N := 3) hx hb hts in3 hown hK.1 hP 12 nb_a12 rfl 2 (by decide) w_3 (fun _ h9 => h9) rfl dX3_workOut_130 ?_
              refine lv_iload hx hb dX3_workOut_133 (lv_at hl 0 rfl) ?_
              refine lv_iconst (v := (1 : Int32)) hx hb dX3_workOut_135 (by decide) ?_
              refine lv_isub hx hb dX3_workOut_136 ?_
              refine lv_iload hx hb dX3_workOut_137 (lv_at hl 1 rfl) ?_
              refine lv_sipush (v := (20000 : Int32)) hx hb dX3_workOut_139 (by decide) ?_
              refine lv_isub hx hb dX3_workOut_142 ?_
              refine lv_aload_n hx hb dX3_workOut_143 rfl (lv_at hl 2 rfl) ?_
              refine va_get (v := .ref (ad 14)) (C := RX3) (T := TX3) (N := 3) hx hb hts in3 hown hK.1 hP 12 nb_a12 rfl 2 (by decide) w_3 (fun _ h9 => h9) rfl dX3_workOut_144 ?_
              refine lv_iload hx hb dX3_workOut_147 (lv_at hl 0 rfl) ?_
              refine lv_iconst (v := (1 : Int32)) hx hb dX3_workOut_149 (by decide) ?_
              refine lv_isub hx hb dX3_workOut_150 ?_
              obtain ⟨c_13, h⟩ := nb_c h
              refine va_iald hx hb hK.1 hP 14 0 nb_a14 rfl c_13 dX3_workOut_151 ?_
              refine lv_aload_n hx hb dX3_workOut_152 rfl (lv_at hl 2 rfl) ?_
              refine va_get (v := .ref (ad 14)) (C := RX3) (T := TX3) (N := 3) hx hb hts in3 hown hK.1 hP 12 nb_a12 rfl 2 (by decide) w_3 (fun _ h9 => h9) rfl dX3_workOut_153 ?_
              refine lv_iload hx hb dX3_workOut_156 (lv_at hl 0 rfl) ?_
              obtain ⟨c_14, h⟩ := nb_c h
              refine va_iald hx hb hK.1 hP 14 0 nb_a14 rfl c_14 dX3_workOut_158 ?_
              obtain ⟨r_15, e_15, h⟩ := nb_oE h
              refine nb_callS (n := 3) (As := [.int (v_3 - (20000 : Int32)), .int (M.1 14 ((x4 + (-1)) - (1 : Int32)).toNatClampNeg), .int (M.1 14 (x4 + (-1)).toNatClampNeg)]) (rest := [.int ((x4 + (-1)) - (1 : Int32)), .ref (ad 14)]) hx hb hml hown hts hK hZ hP hS (k_X3_joined had M N (v_3 - (20000 : Int32)) (M.1 14 ((x4 + (-1)) - (1 : Int32)).toNatClampNeg) (M.1 14 (x4 + (-1)).toNatClampNeg) e_15) gX3_workOut_X3_joined rfl (by decide +kernel) (nb_rm (Nat.le_of_ble_eq_true rfl) (Nat.le_of_ble_eq_true rfl)) rfl hl.1 rfl (Nat.le_of_ble_eq_true rfl) dX3_workOut_159 (fun H locs hP hS => ?_)
              refine W.eq (g2 := F0 m 162 ls [.int r_15, .int ((x4 + (-1)) - (1 : Int32)), .ref (ad 14)]) rfl ?_
              refine nb_iast hx hb had hK hP hS nb_a14 c_13 (nb_t14 _ _) dX3_workOut_162 (fun H locs hP hS => ?_)
              obtain ⟨M_16, e_16, h⟩ := nb_nE h
              rw [e_16] at hP
              refine lv_iinc (v := x5 + 1) (lv' := [(5, .int (x5 + 1)), (4, .int (x4 + (-1))), (6, .int v_3), (0, .ref (ad 12)), (1, .int x1), (2, .int x2), (3, .int x3)]) hx hb dX3_workOut_163 hl (k := 6) rfl (congrArg (HAdd.hAdd x5) (by decide)) (by decide) rfl (fun ls hl => ?_)
              refine lv_goto (tgt := 6) hx hb dX3_workOut_166 (by decide) ?_
              exact ih _ _ _ _ _ _ h _ _ hP hS _ (lv_sub hl [3, 4, 5, 6, 1, 0] rfl)
          · have h := nb_f c_11 h
            refine lv_aload_n hx hb dX3_workOut_91 rfl (lv_at hl 1 rfl) ?_
            refine va_get (v := .ref (ad 14)) (C := RX3) (T := TX3) (N := 3) hx hb hts in3 hown hK.1 hP 12 nb_a12 rfl 2 (by decide) w_3 (fun _ h9 => h9) rfl dX3_workOut_92 ?_
            refine lv_iload hx hb dX3_workOut_95 (lv_at hl 5 rfl) ?_
            refine lv_iconst (v := (1 : Int32)) hx hb dX3_workOut_97 (by decide) ?_
            refine lv_isub hx hb dX3_workOut_98 ?_
            refine lv_aload_n hx hb dX3_workOut_99 rfl (lv_at hl 1 rfl) ?_
            refine va_get (v := .ref (ad 14)) (C := RX3) (T := TX3) (N := 3) hx hb hts in3 hown hK.1 hP 12 nb_a12 rfl 2 (by decide) w_3 (fun _ h9 => h9) rfl dX3_workOut_100 ?_
            refine lv_iload hx hb dX3_workOut_103 (lv_at hl 5 rfl) ?_
            refine lv_iconst (v := (1 : Int32)) hx hb dX3_workOut_105 (by decide) ?_
            refine lv_isub hx hb dX3_workOut_106 ?_
            obtain ⟨c_17, h⟩ := nb_c h
            refine va_iald hx hb hK.1 hP 14 0 nb_a14 rfl c_17 dX3_workOut_107 ?_
            refine lv_if_ne (tgt := 115) hx hb dX3_workOut_108 (by decide) (fun c_18 => ?_) (fun c_18 => ?_)
            · have h := nb_f c_18 h
              refine lv_iconst (v := (0 : Int32)) hx hb dX3_workOut_115 (by decide) ?_
              refine nb_iast hx hb had hK hP hS nb_a14 c_17 (nb_t14 _ _) dX3_workOut_116 (fun H locs hP hS => ?_)
              obtain ⟨M_19, e_19, h⟩ := nb_nE h
              rw [e_19] at hP
              refine lv_goto (tgt := 163) hx hb dX3_workOut_117 (by decide) ?_
              refine lv_iinc (v := x5 + 1) (lv' := [(5, .int (x5 + 1)), (6, .int v_3), (0, .ref (ad 12)), (1, .int x1), (2, .int x2), (3, .int x3), (4, .int x4)]) hx hb dX3_workOut_163 hl (k := 6) rfl (congrArg (HAdd.hAdd x5) (by decide)) (by decide) rfl (fun ls hl => ?_)
              refine lv_goto (tgt := 6) hx hb dX3_workOut_166 (by decide) ?_
              exact ih _ _ _ _ _ _ h _ _ hP hS _ (lv_sub hl [2, 3, 4, 5, 6, 0] rfl)
            · have h := nb_t c_18 h
              refine lv_iconst (v := (1 : Int32)) hx hb dX3_workOut_111 (by decide) ?_
              refine lv_goto (tgt := 116) hx hb dX3_workOut_112 (by decide) ?_
              refine nb_iast hx hb had hK hP hS nb_a14 c_17 (nb_t14 _ _) dX3_workOut_116 (fun H locs hP hS => ?_)
              obtain ⟨M_20, e_20, h⟩ := nb_nE h
              rw [e_20] at hP
              refine lv_goto (tgt := 163) hx hb dX3_workOut_117 (by decide) ?_
              refine lv_iinc (v := x5 + 1) (lv' := [(5, .int (x5 + 1)), (6, .int v_3), (0, .ref (ad 12)), (1, .int x1), (2, .int x2), (3, .int x3), (4, .int x4)]) hx hb dX3_workOut_163 hl (k := 6) rfl (congrArg (HAdd.hAdd x5) (by decide)) (by decide) rfl (fun ls hl => ?_)
              refine lv_goto (tgt := 6) hx hb dX3_workOut_166 (by decide) ?_
              exact ih _ _ _ _ _ _ h _ _ hP hS _ (lv_sub hl [2, 3, 4, 5, 6, 0] rfl)
      · have h := nb_f c_4 h
        refine lv_iload hx hb dX3_workOut_32 (lv_at hl 5 rfl) ?_
        refine lv_bipush (v := (60 : Int32)) hx hb dX3_workOut_34 (by decide) ?_
        refine lv_icmp_ge (tgt := 77) hx hb dX3_workOut_36 (by decide) (fun c_21 => ?_) (fun c_21 => ?_)
        · have h := nb_t c_21 h
          refine lv_iload hx hb dX3_workOut_77 (lv_at hl 0 rfl) ?_
          refine lv_sipush (v := (20033 : Int32)) hx hb dX3_workOut_79 (by decide) ?_
          refine lv_icmp_ne (tgt := 120) hx hb dX3_workOut_82 (by decide) (fun c_22 => ?_) (fun c_22 => ?_)
          · have h := nb_f c_22 h
            refine lv_iload hx hb dX3_workOut_120 (lv_at hl 5 rfl) ?_
            refine lv_iconst (v := (2 : Int32)) hx hb dX3_workOut_122 (by decide) ?_
            refine lv_icmp_lt (tgt := 163) hx hb dX3_workOut_123 (by decide) (fun c_23 => ?_) (fun c_23 => ?_)
            · have h := nb_t c_23 h
              refine lv_iinc (v := x5 + 1) (lv' := [(5, .int (x5 + 1)), (6, .int v_3), (0, .ref (ad 12)), (1, .int x1), (2, .int x2), (3, .int x3), (4, .int x4)]) hx hb dX3_workOut_163 hl (k := 6) rfl (congrArg (HAdd.hAdd x5) (by decide)) (by decide) rfl (fun ls hl => ?_)
              refine lv_goto (tgt := 6) hx hb dX3_workOut_166 (by decide) ?_
              exact ih _ _ _ _ _ _ h _ _ hP hS _ (lv_sub hl [2, 3, 4, 5, 6, 0] rfl)
            · have h := nb_f c_23 h
              refine lv_iinc (v := x4 + (-1)) (lv' := [(4, .int (x4 + (-1))), (6, .int v_3), (0, .ref (ad 12)), (1, .int x1), (2, .int x2), (3, .int x3), (5, .int x5)]) hx hb dX3_workOut_126 hl (k := 5) rfl (congrArg (HAdd.hAdd x4) (by decide)) (by decide) rfl (fun ls hl => ?_)
              refine lv_aload_n hx hb dX3_workOut_129 rfl (lv_at hl 2 rfl) ?_
              refine va_get (v := .ref (ad 14)) (C := RX3) (T := TX3) (N := 3) hx hb hts in3 hown hK.1 hP 12 nb_a12 rfl 2 (by decide) w_3 (fun _ h9 => h9) rfl dX3_workOut_130 ?_
              refine lv_iload hx hb dX3_workOut_133 (lv_at hl 0 rfl) ?_
              refine lv_iconst (v := (1 : Int32)) hx hb dX3_workOut_135 (by decide) ?_
              refine lv_isub hx hb dX3_workOut_136 ?_
              refine lv_iload hx hb dX3_workOut_137 (lv_at hl 1 rfl) ?_
              refine lv_sipush (v := (20000 : Int32)) hx hb dX3_workOut_139 (by decide) ?_
              refine lv_isub hx hb dX3_workOut_142 ?_
              refine lv_aload_n hx hb dX3_workOut_143 rfl (lv_at hl 2 rfl) ?_
              refine va_get (v := .ref (ad 14)) (C := RX3) (T := TX3) (N := 3) hx hb hts in3 hown hK.1 hP 12 nb_a12 rfl 2 (by decide) w_3 (fun _ h9 => h9) rfl dX3_workOut_144 ?_
              refine lv_iload hx hb dX3_workOut_147 (lv_at hl 0 rfl) ?_
              refine lv_iconst (v := (1 : Int32)) hx hb dX3_workOut_149 (by decide) ?_
              refine lv_isub hx hb dX3_workOut_150 ?_
              obtain ⟨c_24, h⟩ := nb_c h
              refine va_iald hx hb hK.1 hP 14 0 nb_a14 rfl c_24 dX3_workOut_151 ?_
              refine lv_aload_n hx hb dX3_workOut_152 rfl (lv_at hl 2 rfl) ?_
              refine va_get (v := .ref (ad 14)) (C := RX3) (T := TX3) (N := 3) hx hb hts in3 hown hK.1 hP 12 nb_a12 rfl 2 (by decide) w_3 (fun _ h9 => h9) rfl dX3_workOut_153 ?_
              refine lv_iload hx hb dX3_workOut_156 (lv_at hl 0 rfl) ?_
              obtain ⟨c_25, h⟩ := nb_c h
              refine va_iald hx hb hK.1 hP 14 0 nb_a14 rfl c_25 dX3_workOut_158 ?_
              obtain ⟨r_26, e_26, h⟩ := nb_oE h
              refine nb_callS (n := 3) (As := [.int (v_3 - (20000 : Int32)), .int (M.1 14 ((x4 + (-1)) - (1 : Int32)).toNatClampNeg), .int (M.1 14 (x4 + (-1)).toNatClampNeg)]) (rest := [.int ((x4 + (-1)) - (1 : Int32)), .ref (ad 14)]) hx hb hml hown hts hK hZ hP hS (k_X3_joined had M N (v_3 - (20000 : Int32)) (M.1 14 ((x4 + (-1)) - (1 : Int32)).toNatClampNeg) (M.1 14 (x4 + (-1)).toNatClampNeg) e_26) gX3_workOut_X3_joined rfl (by decide +kernel) (nb_rm (Nat.le_of_ble_eq_true rfl) (Nat.le_of_ble_eq_true rfl)) rfl hl.1 rfl (Nat.le_of_ble_eq_true rfl) dX3_workOut_159 (fun H locs hP hS => ?_)
              refine W.eq (g2 := F0 m 162 ls [.int r_26, .int ((x4 + (-1)) - (1 : Int32)), .ref (ad 14)]) rfl ?_
              refine nb_iast hx hb had hK hP hS nb_a14 c_24 (nb_t14 _ _) dX3_workOut_162 (fun H locs hP hS => ?_)
              obtain ⟨M_27, e_27, h⟩ := nb_nE h
              rw [e_27] at hP
              refine lv_iinc (v := x5 + 1) (lv' := [(5, .int (x5 + 1)), (4, .int (x4 + (-1))), (6, .int v_3), (0, .ref (ad 12)), (1, .int x1), (2, .int x2), (3, .int x3)]) hx hb dX3_workOut_163 hl (k := 6) rfl (congrArg (HAdd.hAdd x5) (by decide)) (by decide) rfl (fun ls hl => ?_)
              refine lv_goto (tgt := 6) hx hb dX3_workOut_166 (by decide) ?_
              exact ih _ _ _ _ _ _ h _ _ hP hS _ (lv_sub hl [3, 4, 5, 6, 1, 0] rfl)
          · have h := nb_t c_22 h
            refine lv_iload hx hb dX3_workOut_85 (lv_at hl 5 rfl) ?_
            refine lv_iconst (v := (1 : Int32)) hx hb dX3_workOut_87 (by decide) ?_
            refine lv_icmp_lt (tgt := 120) hx hb dX3_workOut_88 (by decide) (fun c_28 => ?_) (fun c_28 => ?_)
            · have h := nb_t c_28 h
              refine lv_iload hx hb dX3_workOut_120 (lv_at hl 5 rfl) ?_
              refine lv_iconst (v := (2 : Int32)) hx hb dX3_workOut_122 (by decide) ?_
              refine lv_icmp_lt (tgt := 163) hx hb dX3_workOut_123 (by decide) (fun c_29 => ?_) (fun c_29 => ?_)
              · have h := nb_t c_29 h
                refine lv_iinc (v := x5 + 1) (lv' := [(5, .int (x5 + 1)), (6, .int v_3), (0, .ref (ad 12)), (1, .int x1), (2, .int x2), (3, .int x3), (4, .int x4)]) hx hb dX3_workOut_163 hl (k := 6) rfl (congrArg (HAdd.hAdd x5) (by decide)) (by decide) rfl (fun ls hl => ?_)
                refine lv_goto (tgt := 6) hx hb dX3_workOut_166 (by decide) ?_
                exact ih _ _ _ _ _ _ h _ _ hP hS _ (lv_sub hl [2, 3, 4, 5, 6, 0] rfl)
              · have h := nb_f c_29 h
                refine lv_iinc (v := x4 + (-1)) (lv' := [(4, .int (x4 + (-1))), (6, .int v_3), (0, .ref (ad 12)), (1, .int x1), (2, .int x2), (3, .int x3), (5, .int x5)]) hx hb dX3_workOut_126 hl (k := 5) rfl (congrArg (HAdd.hAdd x4) (by decide)) (by decide) rfl (fun ls hl => ?_)
                refine lv_aload_n hx hb dX3_workOut_129 rfl (lv_at hl 2 rfl) ?_
                refine va_get (v := .ref (ad 14)) (C := RX3) (T := TX3) (N := 3) hx hb hts in3 hown hK.1 hP 12 nb_a12 rfl 2 (by decide) w_3 (fun _ h9 => h9) rfl dX3_workOut_130 ?_
                refine lv_iload hx hb dX3_workOut_133 (lv_at hl 0 rfl) ?_
                refine lv_iconst (v := (1 : Int32)) hx hb dX3_workOut_135 (by decide) ?_
                refine lv_isub hx hb dX3_workOut_136 ?_
                refine lv_iload hx hb dX3_workOut_137 (lv_at hl 1 rfl) ?_
                refine lv_sipush (v := (20000 : Int32)) hx hb dX3_workOut_139 (by decide) ?_
                refine lv_isub hx hb dX3_workOut_142 ?_
                refine lv_aload_n hx hb dX3_workOut_143 rfl (lv_at hl 2 rfl) ?_
                refine va_get (v := .ref (ad 14)) (C := RX3) (T := TX3) (N := 3) hx hb hts in3 hown hK.1 hP 12 nb_a12 rfl 2 (by decide) w_3 (fun _ h9 => h9) rfl dX3_workOut_144 ?_
                refine lv_iload hx hb dX3_workOut_147 (lv_at hl 0 rfl) ?_
                refine lv_iconst (v := (1 : Int32)) hx hb dX3_workOut_149 (by decide) ?_
                refine lv_isub hx hb dX3_workOut_150 ?_
                obtain ⟨c_30, h⟩ := nb_c h
                refine va_iald hx hb hK.1 hP 14 0 nb_a14 rfl c_30 dX3_workOut_151 ?_
                refine lv_aload_n hx hb dX3_workOut_152 rfl (lv_at hl 2 rfl) ?_
                refine va_get (v := .ref (ad 14)) (C := RX3) (T := TX3) (N := 3) hx hb hts in3 hown hK.1 hP 12 nb_a12 rfl 2 (by decide) w_3 (fun _ h9 => h9) rfl dX3_workOut_153 ?_
                refine lv_iload hx hb dX3_workOut_156 (lv_at hl 0 rfl) ?_
                obtain ⟨c_31, h⟩ := nb_c h
                refine va_iald hx hb hK.1 hP 14 0 nb_a14 rfl c_31 dX3_workOut_158 ?_
                obtain ⟨r_32, e_32, h⟩ := nb_oE h
                refine nb_callS (n := 3) (As := [.int (v_3 - (20000 : Int32)), .int (M.1 14 ((x4 + (-1)) - (1 : Int32)).toNatClampNeg), .int (M.1 14 (x4 + (-1)).toNatClampNeg)]) (rest := [.int ((x4 + (-1)) - (1 : Int32)), .ref (ad 14)]) hx hb hml hown hts hK hZ hP hS (k_X3_joined had M N (v_3 - (20000 : Int32)) (M.1 14 ((x4 + (-1)) - (1 : Int32)).toNatClampNeg) (M.1 14 (x4 + (-1)).toNatClampNeg) e_32) gX3_workOut_X3_joined rfl (by decide +kernel) (nb_rm (Nat.le_of_ble_eq_true rfl) (Nat.le_of_ble_eq_true rfl)) rfl hl.1 rfl (Nat.le_of_ble_eq_true rfl) dX3_workOut_159 (fun H locs hP hS => ?_)
                refine W.eq (g2 := F0 m 162 ls [.int r_32, .int ((x4 + (-1)) - (1 : Int32)), .ref (ad 14)]) rfl ?_
                refine nb_iast hx hb had hK hP hS nb_a14 c_30 (nb_t14 _ _) dX3_workOut_162 (fun H locs hP hS => ?_)
                obtain ⟨M_33, e_33, h⟩ := nb_nE h
                rw [e_33] at hP
                refine lv_iinc (v := x5 + 1) (lv' := [(5, .int (x5 + 1)), (4, .int (x4 + (-1))), (6, .int v_3), (0, .ref (ad 12)), (1, .int x1), (2, .int x2), (3, .int x3)]) hx hb dX3_workOut_163 hl (k := 6) rfl (congrArg (HAdd.hAdd x5) (by decide)) (by decide) rfl (fun ls hl => ?_)
                refine lv_goto (tgt := 6) hx hb dX3_workOut_166 (by decide) ?_
                exact ih _ _ _ _ _ _ h _ _ hP hS _ (lv_sub hl [3, 4, 5, 6, 1, 0] rfl)
            · have h := nb_f c_28 h
              refine lv_aload_n hx hb dX3_workOut_91 rfl (lv_at hl 1 rfl) ?_
              refine va_get (v := .ref (ad 14)) (C := RX3) (T := TX3) (N := 3) hx hb hts in3 hown hK.1 hP 12 nb_a12 rfl 2 (by decide) w_3 (fun _ h9 => h9) rfl dX3_workOut_92 ?_
              refine lv_iload hx hb dX3_workOut_95 (lv_at hl 5 rfl) ?_
              refine lv_iconst (v := (1 : Int32)) hx hb dX3_workOut_97 (by decide) ?_
              refine lv_isub hx hb dX3_workOut_98 ?_
              refine lv_aload_n hx hb dX3_workOut_99 rfl (lv_at hl 1 rfl) ?_
              refine va_get (v := .ref (ad 14)) (C := RX3) (T := TX3) (N := 3) hx hb hts in3 hown hK.1 hP 12 nb_a12 rfl 2 (by decide) w_3 (fun _ h9 => h9) rfl dX3_workOut_100 ?_
              refine lv_iload hx hb dX3_workOut_103 (lv_at hl 5 rfl) ?_
              refine lv_iconst (v := (1 : Int32)) hx hb dX3_workOut_105 (by decide) ?_
              refine lv_isub hx hb dX3_workOut_106 ?_
              obtain ⟨c_34, h⟩ := nb_c h
              refine va_iald hx hb hK.1 hP 14 0 nb_a14 rfl c_34 dX3_workOut_107 ?_
              refine lv_if_ne (tgt := 115) hx hb dX3_workOut_108 (by decide) (fun c_35 => ?_) (fun c_35 => ?_)
              · have h := nb_f c_35 h
                refine lv_iconst (v := (0 : Int32)) hx hb dX3_workOut_115 (by decide) ?_
                refine nb_iast hx hb had hK hP hS nb_a14 c_34 (nb_t14 _ _) dX3_workOut_116 (fun H locs hP hS => ?_)
                obtain ⟨M_36, e_36, h⟩ := nb_nE h
                rw [e_36] at hP
                refine lv_goto (tgt := 163) hx hb dX3_workOut_117 (by decide) ?_
                refine lv_iinc (v := x5 + 1) (lv' := [(5, .int (x5 + 1)), (6, .int v_3), (0, .ref (ad 12)), (1, .int x1), (2, .int x2), (3, .int x3), (4, .int x4)]) hx hb dX3_workOut_163 hl (k := 6) rfl (congrArg (HAdd.hAdd x5) (by decide)) (by decide) rfl (fun ls hl => ?_)
                refine lv_goto (tgt := 6) hx hb dX3_workOut_166 (by decide) ?_
                exact ih _ _ _ _ _ _ h _ _ hP hS _ (lv_sub hl [2, 3, 4, 5, 6, 0] rfl)
              · have h := nb_t c_35 h
                refine lv_iconst (v := (1 : Int32)) hx hb dX3_workOut_111 (by decide) ?_
                refine lv_goto (tgt := 116) hx hb dX3_workOut_112 (by decide) ?_
                refine nb_iast hx hb had hK hP hS nb_a14 c_34 (nb_t14 _ _) dX3_workOut_116 (fun H locs hP hS => ?_)
                obtain ⟨M_37, e_37, h⟩ := nb_nE h
                rw [e_37] at hP
                refine lv_goto (tgt := 163) hx hb dX3_workOut_117 (by decide) ?_
                refine lv_iinc (v := x5 + 1) (lv' := [(5, .int (x5 + 1)), (6, .int v_3), (0, .ref (ad 12)), (1, .int x1), (2, .int x2), (3, .int x3), (4, .int x4)]) hx hb dX3_workOut_163 hl (k := 6) rfl (congrArg (HAdd.hAdd x5) (by decide)) (by decide) rfl (fun ls hl => ?_)
                refine lv_goto (tgt := 6) hx hb dX3_workOut_166 (by decide) ?_
                exact ih _ _ _ _ _ _ h _ _ hP hS _ (lv_sub hl [2, 3, 4, 5, 6, 0] rfl)
        · have h := nb_f c_21 h
          refine lv_aload_n hx hb dX3_workOut_39 rfl (lv_at hl 1 rfl) ?_
          refine va_get (v := .ref (ad 14)) (C := RX3) (T := TX3) (N := 3) hx hb hts in3 hown hK.1 hP 12 nb_a12 rfl 2 (by decide) w_3 (fun _ h9 => h9) rfl dX3_workOut_40 ?_
          refine lv_iload hx hb dX3_workOut_43 (lv_at hl 5 rfl) ?_
          refine lv_iload hx hb dX3_workOut_45 (lv_at hl 0 rfl) ?_
          refine lv_sipush (v := (10000 : Int32)) hx hb dX3_workOut_47 (by decide) ?_
          refine lv_icmp_ge (tgt := 58) hx hb dX3_workOut_50 (by decide) (fun c_38 => ?_) (fun c_38 => ?_)
          · have h := nb_t c_38 h
            refine lv_iload hx hb dX3_workOut_58 (lv_at hl 0 rfl) ?_
            refine lv_sipush (v := (10000 : Int32)) hx hb dX3_workOut_60 (by decide) ?_
            refine lv_isub hx hb dX3_workOut_63 ?_
            refine lv_iload_n hx hb dX3_workOut_64 rfl (lv_at hl 2 rfl) ?_
            refine lv_iload_n hx hb dX3_workOut_65 rfl (lv_at hl 3 rfl) ?_
            refine lv_iload_n hx hb dX3_workOut_66 rfl (lv_at hl 4 rfl) ?_
            refine nb_callS (n := 4) (As := [.int (v_3 - (10000 : Int32)), .int x1, .int x2, .int x3]) (rest := [.int x4, .ref (ad 14)]) hx hb hml hown hts hK hZ hP hS (k_X3_named had M N (v_3 - (10000 : Int32)) x1 x2 x3) gX3_workOut_X3_named rfl (by decide +kernel) (nb_rm (Nat.le_of_ble_eq_true rfl) (Nat.le_of_ble_eq_true rfl)) rfl hl.1 rfl (Nat.le_of_ble_eq_true rfl) dX3_workOut_67 (fun H locs hP hS => ?_)
            refine W.eq (g2 := F0 m 70 ls [.int (f_X3_named (v_3 - (10000 : Int32)) x1 x2 x3), .int x4, .ref (ad 14)]) rfl ?_
            obtain ⟨c_40, h⟩ := nb_c h
            refine nb_iast hx hb had hK hP hS nb_a14 c_40 (nb_t14 _ _) dX3_workOut_70 (fun H locs hP hS => ?_)
            obtain ⟨M_41, e_41, h⟩ := nb_nE h
            rw [e_41] at hP
            refine lv_iinc (v := x4 + 1) (lv' := [(4, .int (x4 + 1)), (6, .int v_3), (0, .ref (ad 12)), (1, .int x1), (2, .int x2), (3, .int x3), (5, .int x5)]) hx hb dX3_workOut_71 hl (k := 5) rfl (congrArg (HAdd.hAdd x4) (by decide)) (by decide) rfl (fun ls hl => ?_)
            refine lv_goto (tgt := 163) hx hb dX3_workOut_74 (by decide) ?_
            refine lv_iinc (v := x5 + 1) (lv' := [(5, .int (x5 + 1)), (4, .int (x4 + 1)), (6, .int v_3), (0, .ref (ad 12)), (1, .int x1), (2, .int x2), (3, .int x3)]) hx hb dX3_workOut_163 hl (k := 6) rfl (congrArg (HAdd.hAdd x5) (by decide)) (by decide) rfl (fun ls hl => ?_)
            refine lv_goto (tgt := 6) hx hb dX3_workOut_166 (by decide) ?_
            exact ih _ _ _ _ _ _ h _ _ hP hS _ (lv_sub hl [3, 4, 5, 6, 1, 0] rfl)
          · have h := nb_f c_38 h
            refine lv_iload hx hb dX3_workOut_53 (lv_at hl 0 rfl) ?_
            refine lv_goto (tgt := 70) hx hb dX3_workOut_55 (by decide) ?_
            obtain ⟨c_42, h⟩ := nb_c h
            refine nb_iast hx hb had hK hP hS nb_a14 c_42 (nb_t14 _ _) dX3_workOut_70 (fun H locs hP hS => ?_)
            obtain ⟨M_43, e_43, h⟩ := nb_nE h
            rw [e_43] at hP
            refine lv_iinc (v := x4 + 1) (lv' := [(4, .int (x4 + 1)), (6, .int v_3), (0, .ref (ad 12)), (1, .int x1), (2, .int x2), (3, .int x3), (5, .int x5)]) hx hb dX3_workOut_71 hl (k := 5) rfl (congrArg (HAdd.hAdd x4) (by decide)) (by decide) rfl (fun ls hl => ?_)
            refine lv_goto (tgt := 163) hx hb dX3_workOut_74 (by decide) ?_
            refine lv_iinc (v := x5 + 1) (lv' := [(5, .int (x5 + 1)), (4, .int (x4 + 1)), (6, .int v_3), (0, .ref (ad 12)), (1, .int x1), (2, .int x2), (3, .int x3)]) hx hb dX3_workOut_163 hl (k := 6) rfl (congrArg (HAdd.hAdd x5) (by decide)) (by decide) rfl (fun ls hl => ?_)
            refine lv_goto (tgt := 6) hx hb dX3_workOut_166 (by decide) ?_
            exact ih _ _ _ _ _ _ h _ _ hP hS _ (lv_sub hl [3, 4, 5, 6, 1, 0] rfl)
set_option maxHeartbeats 4000000 in
set_option maxRecDepth 100000 in
theorem k_X3_workOut_12 {r : Int32} {M' : nb_M} (had : nb_AD ad b0) (M N : nb_M) (p0 : Int32) (p1 : Int32) (p2 : Int32) (h : f_X3_workOut_12 M p0 p1 p2 = some (r, M')) : nb_C l D ad ca b0 yX3_workOut wsX3_workOut 1 [.ref (ad 12), .int p0, .int p1, .int p2] M N (some (.int r)) M' N := by
  refine nb_of (cc := cX3_workOut) (maxL := 7) (ret := (some .int)) (own := RX3) (by decide +kernel) rfl rfl (Nat.le_of_ble_eq_true rfl) ?_
  intro p e s m args below meth c ls X hP hS hl
  have hl : lv_has ls 7 [(0, .ref (ad 12)), (1, .int p0), (2, .int p1), (3, .int p2)] := hl
  obtain ⟨hx, hb, hml, hown, hts, hr, hlk, hK, hZ⟩ := id X
  unfold f_X3_workOut_12 at h
  refine lv_iconst (v := (0 : Int32)) hx hb dX3_workOut_0 (by decide) ?_
  refine lv_istore (lv' := [(4, .int (0 : Int32)), (0, .ref (ad 12)), (1, .int p0), (2, .int p1), (3, .int p2)]) hx hb dX3_workOut_1 hl (by decide) rfl (fun ls hl => ?_)
  refine lv_iconst (v := (0 : Int32)) hx hb dX3_workOut_3 (by decide) ?_
  refine lv_istore (lv' := [(5, .int (0 : Int32)), (4, .int (0 : Int32)), (0, .ref (ad 12)), (1, .int p0), (2, .int p1), (3, .int p2)]) hx hb dX3_workOut_4 hl (by decide) rfl (fun ls hl => ?_)
  exact w_X3_workOut_12_6 had X nb_F _ _ _ _ _ _ h _ _ hP hS _ (lv_sub hl [2, 3, 4, 5, 1, 0] rfl)
set_option maxHeartbeats 4000000 in
set_option maxRecDepth 100000 in
theorem k_X3_isThere_15 (had : nb_AD ad b0) (M N : nb_M) : nb_C l D ad ca b0 yX3_isThere wsX3_isThere 0 [.ref (ad 15)] M N (some (.int (f_X3_isThere_15 M))) M N := by
  obtain ⟨r, h⟩ : ∃ r, f_X3_isThere_15 M = r := ⟨_, rfl⟩
  rw [h]
  refine nb_of (cc := cX3_isThere) (maxL := 1) (ret := (some .boolean)) (own := RX3) (by decide +kernel) rfl rfl (Nat.le_of_ble_eq_true rfl) ?_
  intro p e s m args below meth c ls X hP hS hl
  have hl : lv_has ls 1 [(0, .ref (ad 15))] := hl
  obtain ⟨hx, hb, hml, hown, hts, hr, hlk, hK, hZ⟩ := id X
  have w_1 := hts (.fieldLink RX3 18 "NineBreakages$Text" "stepped" "I") (by decide +kernel)
  have in3 : ∀ w ∈ u_ws RX3 TX3 3, w ∈ wsX3_isThere := fun w q => List.mem_cons_of_mem _ (List.mem_append_right _ q)
  unfold f_X3_isThere_15 at h
  refine lv_aload_n hx hb dX3_isThere_0 rfl (lv_at hl 0 rfl) ?_
  refine va_get (v := .int (M.1 15 1)) (C := RX3) (T := TX3) (N := 3) hx hb hts in3 hown hK.1 hP 15 nb_a15 rfl 1 (by decide) w_1 (fun _ h9 => h9) rfl dX3_isThere_1 ?_
  refine lv_if_le (tgt := 11) hx hb dX3_isThere_4 (by decide) (fun c_1 => ?_) (fun c_1 => ?_)
  · have h := nb_t c_1 h
    refine lv_iconst (v := (0 : Int32)) hx hb dX3_isThere_11 (by decide) ?_
    obtain rfl := nb_e3 h
    exact nb_zret (by decide) hx hb hr hlk hP hS dX3_isThere_12
  · have h := nb_f c_1 h
    refine lv_iconst (v := (1 : Int32)) hx hb dX3_isThere_7 (by decide) ?_
    refine lv_goto (tgt := 12) hx hb dX3_isThere_8 (by decide) ?_
    obtain rfl := nb_e3 h
    exact nb_zret (by decide) hx hb hr hlk hP hS dX3_isThere_12
set_option maxHeartbeats 4000000 in
set_option maxRecDepth 100000 in
theorem w_X3_workOut_15_6 {N : nb_M} {r : Int32} {M' : nb_M} (had : nb_AD ad b0) (X : nb_X p s m args meth c cX3_workOut 7 RX3 (some .int) wsX3_workOut D ca b0) : ∀ (n : Nat) (M : nb_M) (x1 : Int32) (x2 : Int32) (x3 : Int32) (x4 : Int32) (x5 : Int32), f_X3_workOut_15_6 n M x1 x2 x3 x4 x5 = some (r, M') → ∀ (H : Heap) (locs : List Loc), va_P D vwCl (nb_w ad ca M N) H → va_S (fun q => b0 ≤ q) s.heap H locs → ∀ ls : Array Slot, lv_has ls 7 [(0, .ref (ad 15)), (1, .int x1), (2, .int x2), (3, .int x3), (4, .int x4), (5, .int x5)] → W p l e (nb_R 1) s m args below meth c H locs 0 0 (nb_Q below args s D ad ca b0 (some (.int r)) M' N) (F0 m 6 ls []) := by
  obtain ⟨hx, hb, hml, hown, hts, hr, hlk, hK, hZ⟩ := id X
  have w_1 := hts (.fieldLink RX3 18 "NineBreakages$Text" "stepped" "I") (by decide +kernel)
  have in3 : ∀ w ∈ u_ws RX3 TX3 3, w ∈ wsX3_workOut := fun w q => List.mem_cons_of_mem _ (List.mem_append_right _ q)
  have w_3 := hts (.fieldLink RX3 15 "NineBreakages$Text" "stack" "[I") (by decide +kernel)
  have w_4 := hts (.fieldLink RX3 9 "NineBreakages$Text" "steps" "[I") (by decide +kernel)
  intro n
  induction n with
  | zero =>
    intro M x1 x2 x3 x4 x5 h
    rw [f_X3_workOut_15_6] at h
    cases h
  | succ n ih =>
    intro M x1 x2 x3 x4 x5 h H locs hP hS ls hl
    rw [f_X3_workOut_15_6] at h
    refine lv_iload hx hb dX3_workOut_6 (lv_at hl 5 rfl) ?_
    refine lv_aload_n hx hb dX3_workOut_8 rfl (lv_at hl 0 rfl) ?_
    refine va_get (v := .int (M.1 15 1)) (C := RX3) (T := TX3) (N := 3) hx hb hts in3 hown hK.1 hP 15 nb_a15 rfl 1 (by decide) w_1 (fun _ h9 => h9) rfl dX3_workOut_9 ?_
    refine lv_icmp_ge (tgt := 169) hx hb dX3_workOut_12 (by decide) (fun c_1 => ?_) (fun c_1 => ?_)
    · have h := nb_t c_1 h
      refine lv_aload_n hx hb dX3_workOut_169 rfl (lv_at hl 0 rfl) ?_
      refine va_get (v := .ref (ad 17)) (C := RX3) (T := TX3) (N := 3) hx hb hts in3 hown hK.1 hP 15 nb_a15 rfl 2 (by decide) w_3 (fun _ h9 => h9) rfl dX3_workOut_170 ?_
      refine lv_iconst (v := (0 : Int32)) hx hb dX3_workOut_173 (by decide) ?_
      refine va_iald hx hb hK.1 hP 17 0 nb_a17 rfl (nb_lit rfl) dX3_workOut_174 ?_
      obtain ⟨rfl, rfl⟩ := nb_e2 h
      exact nb_iret hx hb hr hlk hP hS dX3_workOut_175
    · have h := nb_f c_1 h
      refine lv_aload_n hx hb dX3_workOut_15 rfl (lv_at hl 0 rfl) ?_
      refine va_get (v := .ref (ad 16)) (C := RX3) (T := TX3) (N := 3) hx hb hts in3 hown hK.1 hP 15 nb_a15 rfl 0 (by decide) w_4 (fun _ h9 => h9) rfl dX3_workOut_16 ?_
      refine lv_iload hx hb dX3_workOut_19 (lv_at hl 5 rfl) ?_
      obtain ⟨c_2, h⟩ := nb_c h
      refine va_iald hx hb hK.1 hP 16 0 nb_a16 rfl c_2 dX3_workOut_21 ?_
      refine lv_topi (fun v_3 e_3 => ?_)
      have h := nb_nA e_3 h
      refine lv_istore (lv' := [(6, .int v_3), (0, .ref (ad 15)), (1, .int x1), (2, .int x2), (3, .int x3), (4, .int x4), (5, .int x5)]) hx hb dX3_workOut_22 hl (by decide) rfl (fun ls hl => ?_)
      refine lv_iload hx hb dX3_workOut_24 (lv_at hl 0 rfl) ?_
      refine lv_sipush (v := (20000 : Int32)) hx hb dX3_workOut_26 (by decide) ?_
      refine lv_icmp_ge (tgt := 77) hx hb dX3_workOut_29 (by decide) (fun c_4 => ?_) (fun c_4 => ?_)
      · have h := nb_t c_4 h
        refine lv_iload hx hb dX3_workOut_77 (lv_at hl 0 rfl) ?_
        refine lv_sipush (v := (20033 : Int32)) hx hb dX3_workOut_79 (by decide) ?_
        refine lv_icmp_ne (tgt := 120) hx hb dX3_workOut_82 (by decide) (fun c_5 => ?_) (fun c_5 => ?_)
        · have h := nb_f c_5 h
          refine lv_iload hx hb dX3_workOut_120 (lv_at hl 5 rfl) ?_
          refine lv_iconst (v := (2 : Int32)) hx hb dX3_workOut_122 (by decide) ?_
          refine lv_icmp_lt (tgt := 163) hx hb dX3_workOut_123 (by decide) (fun c_6 => ?_) (fun c_6 => ?_)
          · have h := nb_t c_6 h
            refine lv_iinc (v := x5 + 1) (lv' := [(5, .int (x5 + 1)), (6, .int v_3), (0, .ref (ad 15)), (1, .int x1), (2, .int x2), (3, .int x3), (4, .int x4)]) hx hb dX3_workOut_163 hl (k := 6) rfl (congrArg (HAdd.hAdd x5) (by decide)) (by decide) rfl (fun ls hl => ?_)
            refine lv_goto (tgt := 6) hx hb dX3_workOut_166 (by decide) ?_
            exact ih _ _ _ _ _ _ h _ _ hP hS _ (lv_sub hl [2, 3, 4, 5, 6, 0] rfl)
          · have h := nb_f c_6 h
            refine lv_iinc (v := x4 + (-1)) (lv' := [(4, .int (x4 + (-1))), (6, .int v_3), (0, .ref (ad 15)), (1, .int x1), (2, .int x2), (3, .int x3), (5, .int x5)]) hx hb dX3_workOut_126 hl (k := 5) rfl (congrArg (HAdd.hAdd x4) (by decide)) (by decide) rfl (fun ls hl => ?_)
            refine lv_aload_n hx hb dX3_workOut_129 rfl (lv_at hl 2 rfl) ?_
            refine va_get (v := .ref (ad 17)) (C := RX3) (T := TX3) (N := 3) hx hb hts in3 hown hK.1 hP 15 nb_a15 rfl 2 (by decide) w_3 (fun _ h9 => h9) rfl dX3_workOut_130 ?_
            refine lv_iload hx hb dX3_workOut_133 (lv_at hl 0 rfl) ?_
            refine lv_iconst (v := (1 : Int32)) hx hb dX3_workOut_135 (by decide) ?_
            refine lv_isub hx hb dX3_workOut_136 ?_
            refine lv_iload hx hb dX3_workOut_137 (lv_at hl 1 rfl) ?_
            refine lv_sipush (v := (20000 : Int32)) hx hb dX3_workOut_139 (by decide) ?_
            refine lv_isub hx hb dX3_workOut_142 ?_
            refine lv_aload_n hx hb dX3_workOut_143 rfl (lv_at hl 2 rfl) ?_
            refine va_get (v := .ref (ad 17)) (C := RX3) (T := TX3) (N := 3) hx hb hts in3 hown hK.1 hP 15 nb_a15 rfl 2 (by decide) w_3 (fun _ h9 => h9) rfl dX3_workOut_144 ?_
            refine lv_iload hx hb dX3_workOut_147 (lv_at hl 0 rfl) ?_
            refine lv_iconst (v := (1 : Int32)) hx hb dX3_workOut_149 (by decide) ?_
            refine lv_isub hx hb dX3_workOut_150 ?_
            obtain ⟨c_7, h⟩ := nb_c h
            refine va_iald hx hb hK.1 hP 17 0 nb_a17 rfl c_7 dX3_workOut_151 ?_
            refine lv_aload_n hx hb dX3_workOut_152 rfl (lv_at hl 2 rfl) ?_
            refine va_get (v := .ref (ad 17)) (C := RX3) (T := TX3) (N := 3) hx hb hts in3 hown hK.1 hP 15 nb_a15 rfl 2 (by decide) w_3 (fun _ h9 => h9) rfl dX3_workOut_153 ?_
            refine lv_iload hx hb dX3_workOut_156 (lv_at hl 0 rfl) ?_
            obtain ⟨c_8, h⟩ := nb_c h
            refine va_iald hx hb hK.1 hP 17 0 nb_a17 rfl c_8 dX3_workOut_158 ?_
            obtain ⟨r_9, e_9, h⟩ := nb_oE h
            refine nb_callS (n := 3) (As := [.int (v_3 - (20000 : Int32)), .int (M.1 17 ((x4 + (-1)) - (1 : Int32)).toNatClampNeg), .int (M.1 17 (x4 + (-1)).toNatClampNeg)]) (rest := [.int ((x4 + (-1)) - (1 : Int32)), .ref (ad 17)]) hx hb hml hown hts hK hZ hP hS (k_X3_joined had M N (v_3 - (20000 : Int32)) (M.1 17 ((x4 + (-1)) - (1 : Int32)).toNatClampNeg) (M.1 17 (x4 + (-1)).toNatClampNeg) e_9) gX3_workOut_X3_joined rfl (by decide +kernel) (nb_rm (Nat.le_of_ble_eq_true rfl) (Nat.le_of_ble_eq_true rfl)) rfl hl.1 rfl (Nat.le_of_ble_eq_true rfl) dX3_workOut_159 (fun H locs hP hS => ?_)
            refine W.eq (g2 := F0 m 162 ls [.int r_9, .int ((x4 + (-1)) - (1 : Int32)), .ref (ad 17)]) rfl ?_
            refine nb_iast hx hb had hK hP hS nb_a17 c_7 (nb_t17 _ _) dX3_workOut_162 (fun H locs hP hS => ?_)
            obtain ⟨M_10, e_10, h⟩ := nb_nE h
            rw [e_10] at hP
            refine lv_iinc (v := x5 + 1) (lv' := [(5, .int (x5 + 1)), (4, .int (x4 + (-1))), (6, .int v_3), (0, .ref (ad 15)), (1, .int x1), (2, .int x2), (3, .int x3)]) hx hb dX3_workOut_163 hl (k := 6) rfl (congrArg (HAdd.hAdd x5) (by decide)) (by decide) rfl (fun ls hl => ?_)
            refine lv_goto (tgt := 6) hx hb dX3_workOut_166 (by decide) ?_
            exact ih _ _ _ _ _ _ h _ _ hP hS _ (lv_sub hl [3, 4, 5, 6, 1, 0] rfl)
        · have h := nb_t c_5 h
          refine lv_iload hx hb dX3_workOut_85 (lv_at hl 5 rfl) ?_
          refine lv_iconst (v := (1 : Int32)) hx hb dX3_workOut_87 (by decide) ?_
          refine lv_icmp_lt (tgt := 120) hx hb dX3_workOut_88 (by decide) (fun c_11 => ?_) (fun c_11 => ?_)
          · have h := nb_t c_11 h
            refine lv_iload hx hb dX3_workOut_120 (lv_at hl 5 rfl) ?_
            refine lv_iconst (v := (2 : Int32)) hx hb dX3_workOut_122 (by decide) ?_
            refine lv_icmp_lt (tgt := 163) hx hb dX3_workOut_123 (by decide) (fun c_12 => ?_) (fun c_12 => ?_)
            · have h := nb_t c_12 h
              refine lv_iinc (v := x5 + 1) (lv' := [(5, .int (x5 + 1)), (6, .int v_3), (0, .ref (ad 15)), (1, .int x1), (2, .int x2), (3, .int x3), (4, .int x4)]) hx hb dX3_workOut_163 hl (k := 6) rfl (congrArg (HAdd.hAdd x5) (by decide)) (by decide) rfl (fun ls hl => ?_)
              refine lv_goto (tgt := 6) hx hb dX3_workOut_166 (by decide) ?_
              exact ih _ _ _ _ _ _ h _ _ hP hS _ (lv_sub hl [2, 3, 4, 5, 6, 0] rfl)
            · have h := nb_f c_12 h
              refine lv_iinc (v := x4 + (-1)) (lv' := [(4, .int (x4 + (-1))), (6, .int v_3), (0, .ref (ad 15)), (1, .int x1), (2, .int x2), (3, .int x3), (5, .int x5)]) hx hb dX3_workOut_126 hl (k := 5) rfl (congrArg (HAdd.hAdd x4) (by decide)) (by decide) rfl (fun ls hl => ?_)
              refine lv_aload_n hx hb dX3_workOut_129 rfl (lv_at hl 2 rfl) ?_
              refine va_get (v := .ref (ad 17)) (C := RX3) (T := TX3) (N := 3) hx hb hts in3 hown hK.1 hP 15 nb_a15 rfl 2 (by decide) w_3 (fun _ h9 => h9) rfl dX3_workOut_130 ?_
              refine lv_iload hx hb dX3_workOut_133 (lv_at hl 0 rfl) ?_
              refine lv_iconst (v := (1 : Int32)) hx hb dX3_workOut_135 (by decide) ?_
              refine lv_isub hx hb dX3_workOut_136 ?_
              refine lv_iload hx hb dX3_workOut_137 (lv_at hl 1 rfl) ?_
              refine lv_sipush (v := (20000 : Int32)) hx hb dX3_workOut_139 (by decide) ?_
              refine lv_isub hx hb dX3_workOut_142 ?_
              refine lv_aload_n hx hb dX3_workOut_143 rfl (lv_at hl 2 rfl) ?_
              refine va_get (v := .ref (ad 17)) (C := RX3) (T := TX3) (N := 3) hx hb hts in3 hown hK.1 hP 15 nb_a15 rfl 2 (by decide) w_3 (fun _ h9 => h9) rfl dX3_workOut_144 ?_
              refine lv_iload hx hb dX3_workOut_147 (lv_at hl 0 rfl) ?_
              refine lv_iconst (v := (1 : Int32)) hx hb dX3_workOut_149 (by decide) ?_
              refine lv_isub hx hb dX3_workOut_150 ?_
              obtain ⟨c_13, h⟩ := nb_c h
              refine va_iald hx hb hK.1 hP 17 0 nb_a17 rfl c_13 dX3_workOut_151 ?_
              refine lv_aload_n hx hb dX3_workOut_152 rfl (lv_at hl 2 rfl) ?_
              refine va_get (v := .ref (ad 17)) (C := RX3) (T := TX3) (N := 3) hx hb hts in3 hown hK.1 hP 15 nb_a15 rfl 2 (by decide) w_3 (fun _ h9 => h9) rfl dX3_workOut_153 ?_
              refine lv_iload hx hb dX3_workOut_156 (lv_at hl 0 rfl) ?_
              obtain ⟨c_14, h⟩ := nb_c h
              refine va_iald hx hb hK.1 hP 17 0 nb_a17 rfl c_14 dX3_workOut_158 ?_
              obtain ⟨r_15, e_15, h⟩ := nb_oE h
              refine nb_callS (n := 3) (As := [.int (v_3 - (20000 : Int32)), .int (M.1 17 ((x4 + (-1)) - (1 : Int32)).toNatClampNeg), .int (M.1 17 (x4 + (-1)).toNatClampNeg)]) (rest := [.int ((x4 + (-1)) - (1 : Int32)), .ref (ad 17)]) hx hb hml hown hts hK hZ hP hS (k_X3_joined had M N (v_3 - (20000 : Int32)) (M.1 17 ((x4 + (-1)) - (1 : Int32)).toNatClampNeg) (M.1 17 (x4 + (-1)).toNatClampNeg) e_15) gX3_workOut_X3_joined rfl (by decide +kernel) (nb_rm (Nat.le_of_ble_eq_true rfl) (Nat.le_of_ble_eq_true rfl)) rfl hl.1 rfl (Nat.le_of_ble_eq_true rfl) dX3_workOut_159 (fun H locs hP hS => ?_)
              refine W.eq (g2 := F0 m 162 ls [.int r_15, .int ((x4 + (-1)) - (1 : Int32)), .ref (ad 17)]) rfl ?_
              refine nb_iast hx hb had hK hP hS nb_a17 c_13 (nb_t17 _ _) dX3_workOut_162 (fun H locs hP hS => ?_)
              obtain ⟨M_16, e_16, h⟩ := nb_nE h
              rw [e_16] at hP
              refine lv_iinc (v := x5 + 1) (lv' := [(5, .int (x5 + 1)), (4, .int (x4 + (-1))), (6, .int v_3), (0, .ref (ad 15)), (1, .int x1), (2, .int x2), (3, .int x3)]) hx hb dX3_workOut_163 hl (k := 6) rfl (congrArg (HAdd.hAdd x5) (by decide)) (by decide) rfl (fun ls hl => ?_)
              refine lv_goto (tgt := 6) hx hb dX3_workOut_166 (by decide) ?_
              exact ih _ _ _ _ _ _ h _ _ hP hS _ (lv_sub hl [3, 4, 5, 6, 1, 0] rfl)
          · have h := nb_f c_11 h
            refine lv_aload_n hx hb dX3_workOut_91 rfl (lv_at hl 1 rfl) ?_
            refine va_get (v := .ref (ad 17)) (C := RX3) (T := TX3) (N := 3) hx hb hts in3 hown hK.1 hP 15 nb_a15 rfl 2 (by decide) w_3 (fun _ h9 => h9) rfl dX3_workOut_92 ?_
            refine lv_iload hx hb dX3_workOut_95 (lv_at hl 5 rfl) ?_
            refine lv_iconst (v := (1 : Int32)) hx hb dX3_workOut_97 (by decide) ?_
            refine lv_isub hx hb dX3_workOut_98 ?_
            refine lv_aload_n hx hb dX3_workOut_99 rfl (lv_at hl 1 rfl) ?_
            refine va_get (v := .ref (ad 17)) (C := RX3) (T := TX3) (N := 3) hx hb hts in3 hown hK.1 hP 15 nb_a15 rfl 2 (by decide) w_3 (fun _ h9 => h9) rfl dX3_workOut_100 ?_
            refine lv_iload hx hb dX3_workOut_103 (lv_at hl 5 rfl) ?_
            refine lv_iconst (v := (1 : Int32)) hx hb dX3_workOut_105 (by decide) ?_
            refine lv_isub hx hb dX3_workOut_106 ?_
            obtain ⟨c_17, h⟩ := nb_c h
            refine va_iald hx hb hK.1 hP 17 0 nb_a17 rfl c_17 dX3_workOut_107 ?_
            refine lv_if_ne (tgt := 115) hx hb dX3_workOut_108 (by decide) (fun c_18 => ?_) (fun c_18 => ?_)
            · have h := nb_f c_18 h
              refine lv_iconst (v := (0 : Int32)) hx hb dX3_workOut_115 (by decide) ?_
              refine nb_iast hx hb had hK hP hS nb_a17 c_17 (nb_t17 _ _) dX3_workOut_116 (fun H locs hP hS => ?_)
              obtain ⟨M_19, e_19, h⟩ := nb_nE h
              rw [e_19] at hP
              refine lv_goto (tgt := 163) hx hb dX3_workOut_117 (by decide) ?_
              refine lv_iinc (v := x5 + 1) (lv' := [(5, .int (x5 + 1)), (6, .int v_3), (0, .ref (ad 15)), (1, .int x1), (2, .int x2), (3, .int x3), (4, .int x4)]) hx hb dX3_workOut_163 hl (k := 6) rfl (congrArg (HAdd.hAdd x5) (by decide)) (by decide) rfl (fun ls hl => ?_)
              refine lv_goto (tgt := 6) hx hb dX3_workOut_166 (by decide) ?_
              exact ih _ _ _ _ _ _ h _ _ hP hS _ (lv_sub hl [2, 3, 4, 5, 6, 0] rfl)
            · have h := nb_t c_18 h
              refine lv_iconst (v := (1 : Int32)) hx hb dX3_workOut_111 (by decide) ?_
              refine lv_goto (tgt := 116) hx hb dX3_workOut_112 (by decide) ?_
              refine nb_iast hx hb had hK hP hS nb_a17 c_17 (nb_t17 _ _) dX3_workOut_116 (fun H locs hP hS => ?_)
              obtain ⟨M_20, e_20, h⟩ := nb_nE h
              rw [e_20] at hP
              refine lv_goto (tgt := 163) hx hb dX3_workOut_117 (by decide) ?_
              refine lv_iinc (v := x5 + 1) (lv' := [(5, .int (x5 + 1)), (6, .int v_3), (0, .ref (ad 15)), (1, .int x1), (2, .int x2), (3, .int x3), (4, .int x4)]) hx hb dX3_workOut_163 hl (k := 6) rfl (congrArg (HAdd.hAdd x5) (by decide)) (by decide) rfl (fun ls hl => ?_)
              refine lv_goto (tgt := 6) hx hb dX3_workOut_166 (by decide) ?_
              exact ih _ _ _ _ _ _ h _ _ hP hS _ (lv_sub hl [2, 3, 4, 5, 6, 0] rfl)
      · have h := nb_f c_4 h
        refine lv_iload hx hb dX3_workOut_32 (lv_at hl 5 rfl) ?_
        refine lv_bipush (v := (60 : Int32)) hx hb dX3_workOut_34 (by decide) ?_
        refine lv_icmp_ge (tgt := 77) hx hb dX3_workOut_36 (by decide) (fun c_21 => ?_) (fun c_21 => ?_)
        · have h := nb_t c_21 h
          refine lv_iload hx hb dX3_workOut_77 (lv_at hl 0 rfl) ?_
          refine lv_sipush (v := (20033 : Int32)) hx hb dX3_workOut_79 (by decide) ?_
          refine lv_icmp_ne (tgt := 120) hx hb dX3_workOut_82 (by decide) (fun c_22 => ?_) (fun c_22 => ?_)
          · have h := nb_f c_22 h
            refine lv_iload hx hb dX3_workOut_120 (lv_at hl 5 rfl) ?_
            refine lv_iconst (v := (2 : Int32)) hx hb dX3_workOut_122 (by decide) ?_
            refine lv_icmp_lt (tgt := 163) hx hb dX3_workOut_123 (by decide) (fun c_23 => ?_) (fun c_23 => ?_)
            · have h := nb_t c_23 h
              refine lv_iinc (v := x5 + 1) (lv' := [(5, .int (x5 + 1)), (6, .int v_3), (0, .ref (ad 15)), (1, .int x1), (2, .int x2), (3, .int x3), (4, .int x4)]) hx hb dX3_workOut_163 hl (k := 6) rfl (congrArg (HAdd.hAdd x5) (by decide)) (by decide) rfl (fun ls hl => ?_)
              refine lv_goto (tgt := 6) hx hb dX3_workOut_166 (by decide) ?_
              exact ih _ _ _ _ _ _ h _ _ hP hS _ (lv_sub hl [2, 3, 4, 5, 6, 0] rfl)
            · have h := nb_f c_23 h
              refine lv_iinc (v := x4 + (-1)) (lv' := [(4, .int (x4 + (-1))), (6, .int v_3), (0, .ref (ad 15)), (1, .int x1), (2, .int x2), (3, .int x3), (5, .int x5)]) hx hb dX3_workOut_126 hl (k := 5) rfl (congrArg (HAdd.hAdd x4) (by decide)) (by decide) rfl (fun ls hl => ?_)
              refine lv_aload_n hx hb dX3_workOut_129 rfl (lv_at hl 2 rfl) ?_
              refine va_get (v := .ref (ad 17)) (C := RX3) (T := TX3) (N := 3) hx hb hts in3 hown hK.1 hP 15 nb_a15 rfl 2 (by decide) w_3 (fun _ h9 => h9) rfl dX3_workOut_130 ?_
              refine lv_iload hx hb dX3_workOut_133 (lv_at hl 0 rfl) ?_
              refine lv_iconst (v := (1 : Int32)) hx hb dX3_workOut_135 (by decide) ?_
              refine lv_isub hx hb dX3_workOut_136 ?_
              refine lv_iload hx hb dX3_workOut_137 (lv_at hl 1 rfl) ?_
              refine lv_sipush (v := (20000 : Int32)) hx hb dX3_workOut_139 (by decide) ?_
              refine lv_isub hx hb dX3_workOut_142 ?_
              refine lv_aload_n hx hb dX3_workOut_143 rfl (lv_at hl 2 rfl) ?_
              refine va_get (v := .ref (ad 17)) (C := RX3) (T := TX3) (N := 3) hx hb hts in3 hown hK.1 hP 15 nb_a15 rfl 2 (by decide) w_3 (fun _ h9 => h9) rfl dX3_workOut_144 ?_
              refine lv_iload hx hb dX3_workOut_147 (lv_at hl 0 rfl) ?_
              refine lv_iconst (v := (1 : Int32)) hx hb dX3_workOut_149 (by decide) ?_
              refine lv_isub hx hb dX3_workOut_150 ?_
              obtain ⟨c_24, h⟩ := nb_c h
              refine va_iald hx hb hK.1 hP 17 0 nb_a17 rfl c_24 dX3_workOut_151 ?_
              refine lv_aload_n hx hb dX3_workOut_152 rfl (lv_at hl 2 rfl) ?_
              refine va_get (v := .ref (ad 17)) (C := RX3) (T := TX3) (N := 3) hx hb hts in3 hown hK.1 hP 15 nb_a15 rfl 2 (by decide) w_3 (fun _ h9 => h9) rfl dX3_workOut_153 ?_
              refine lv_iload hx hb dX3_workOut_156 (lv_at hl 0 rfl) ?_
              obtain ⟨c_25, h⟩ := nb_c h
              refine va_iald hx hb hK.1 hP 17 0 nb_a17 rfl c_25 dX3_workOut_158 ?_
              obtain ⟨r_26, e_26, h⟩ := nb_oE h
              refine nb_callS (n := 3) (As := [.int (v_3 - (20000 : Int32)), .int (M.1 17 ((x4 + (-1)) - (1 : Int32)).toNatClampNeg), .int (M.1 17 (x4 + (-1)).toNatClampNeg)]) (rest := [.int ((x4 + (-1)) - (1 : Int32)), .ref (ad 17)]) hx hb hml hown hts hK hZ hP hS (k_X3_joined had M N (v_3 - (20000 : Int32)) (M.1 17 ((x4 + (-1)) - (1 : Int32)).toNatClampNeg) (M.1 17 (x4 + (-1)).toNatClampNeg) e_26) gX3_workOut_X3_joined rfl (by decide +kernel) (nb_rm (Nat.le_of_ble_eq_true rfl) (Nat.le_of_ble_eq_true rfl)) rfl hl.1 rfl (Nat.le_of_ble_eq_true rfl) dX3_workOut_159 (fun H locs hP hS => ?_)
              refine W.eq (g2 := F0 m 162 ls [.int r_26, .int ((x4 + (-1)) - (1 : Int32)), .ref (ad 17)]) rfl ?_
              refine nb_iast hx hb had hK hP hS nb_a17 c_24 (nb_t17 _ _) dX3_workOut_162 (fun H locs hP hS => ?_)
              obtain ⟨M_27, e_27, h⟩ := nb_nE h
              rw [e_27] at hP
              refine lv_iinc (v := x5 + 1) (lv' := [(5, .int (x5 + 1)), (4, .int (x4 + (-1))), (6, .int v_3), (0, .ref (ad 15)), (1, .int x1), (2, .int x2), (3, .int x3)]) hx hb dX3_workOut_163 hl (k := 6) rfl (congrArg (HAdd.hAdd x5) (by decide)) (by decide) rfl (fun ls hl => ?_)
              refine lv_goto (tgt := 6) hx hb dX3_workOut_166 (by decide) ?_
              exact ih _ _ _ _ _ _ h _ _ hP hS _ (lv_sub hl [3, 4, 5, 6, 1, 0] rfl)
          · have h := nb_t c_22 h
            refine lv_iload hx hb dX3_workOut_85 (lv_at hl 5 rfl) ?_
            refine lv_iconst (v := (1 : Int32)) hx hb dX3_workOut_87 (by decide) ?_
            refine lv_icmp_lt (tgt := 120) hx hb dX3_workOut_88 (by decide) (fun c_28 => ?_) (fun c_28 => ?_)
            · have h := nb_t c_28 h
              refine lv_iload hx hb dX3_workOut_120 (lv_at hl 5 rfl) ?_
              refine lv_iconst (v := (2 : Int32)) hx hb dX3_workOut_122 (by decide) ?_
              refine lv_icmp_lt (tgt := 163) hx hb dX3_workOut_123 (by decide) (fun c_29 => ?_) (fun c_29 => ?_)
              · have h := nb_t c_29 h
                refine lv_iinc (v := x5 + 1) (lv' := [(5, .int (x5 + 1)), (6, .int v_3), (0, .ref (ad 15)), (1, .int x1), (2, .int x2), (3, .int x3), (4, .int x4)]) hx hb dX3_workOut_163 hl (k := 6) rfl (congrArg (HAdd.hAdd x5) (by decide)) (by decide) rfl (fun ls hl => ?_)
                refine lv_goto (tgt := 6) hx hb dX3_workOut_166 (by decide) ?_
                exact ih _ _ _ _ _ _ h _ _ hP hS _ (lv_sub hl [2, 3, 4, 5, 6, 0] rfl)
              · have h := nb_f c_29 h
                refine lv_iinc (v := x4 + (-1)) (lv' := [(4, .int (x4 + (-1))), (6, .int v_3), (0, .ref (ad 15)), (1, .int x1), (2, .int x2), (3, .int x3), (5, .int x5)]) hx hb dX3_workOut_126 hl (k := 5) rfl (congrArg (HAdd.hAdd x4) (by decide)) (by decide) rfl (fun ls hl => ?_)
                refine lv_aload_n hx hb dX3_workOut_129 rfl (lv_at hl 2 rfl) ?_
                refine va_get (v := .ref (ad 17)) (C := RX3) (T := TX3) (N := 3) hx hb hts in3 hown hK.1 hP 15 nb_a15 rfl 2 (by decide) w_3 (fun _ h9 => h9) rfl dX3_workOut_130 ?_
                refine lv_iload hx hb dX3_workOut_133 (lv_at hl 0 rfl) ?_
                refine lv_iconst (v := (1 : Int32)) hx hb dX3_workOut_135 (by decide) ?_
                refine lv_isub hx hb dX3_workOut_136 ?_
                refine lv_iload hx hb dX3_workOut_137 (lv_at hl 1 rfl) ?_
                refine lv_sipush (v := (20000 : Int32)) hx hb dX3_workOut_139 (by decide) ?_
                refine lv_isub hx hb dX3_workOut_142 ?_
                refine lv_aload_n hx hb dX3_workOut_143 rfl (lv_at hl 2 rfl) ?_
                refine va_get (v := .ref (ad 17)) (C := RX3) (T := TX3) (N := 3) hx hb hts in3 hown hK.1 hP 15 nb_a15 rfl 2 (by decide) w_3 (fun _ h9 => h9) rfl dX3_workOut_144 ?_
                refine lv_iload hx hb dX3_workOut_147 (lv_at hl 0 rfl) ?_
                refine lv_iconst (v := (1 : Int32)) hx hb dX3_workOut_149 (by decide) ?_
                refine lv_isub hx hb dX3_workOut_150 ?_
                obtain ⟨c_30, h⟩ := nb_c h
                refine va_iald hx hb hK.1 hP 17 0 nb_a17 rfl c_30 dX3_workOut_151 ?_
                refine lv_aload_n hx hb dX3_workOut_152 rfl (lv_at hl 2 rfl) ?_
                refine va_get (v := .ref (ad 17)) (C := RX3) (T := TX3) (N := 3) hx hb hts in3 hown hK.1 hP 15 nb_a15 rfl 2 (by decide) w_3 (fun _ h9 => h9) rfl dX3_workOut_153 ?_
                refine lv_iload hx hb dX3_workOut_156 (lv_at hl 0 rfl) ?_
                obtain ⟨c_31, h⟩ := nb_c h
                refine va_iald hx hb hK.1 hP 17 0 nb_a17 rfl c_31 dX3_workOut_158 ?_
                obtain ⟨r_32, e_32, h⟩ := nb_oE h
                refine nb_callS (n := 3) (As := [.int (v_3 - (20000 : Int32)), .int (M.1 17 ((x4 + (-1)) - (1 : Int32)).toNatClampNeg), .int (M.1 17 (x4 + (-1)).toNatClampNeg)]) (rest := [.int ((x4 + (-1)) - (1 : Int32)), .ref (ad 17)]) hx hb hml hown hts hK hZ hP hS (k_X3_joined had M N (v_3 - (20000 : Int32)) (M.1 17 ((x4 + (-1)) - (1 : Int32)).toNatClampNeg) (M.1 17 (x4 + (-1)).toNatClampNeg) e_32) gX3_workOut_X3_joined rfl (by decide +kernel) (nb_rm (Nat.le_of_ble_eq_true rfl) (Nat.le_of_ble_eq_true rfl)) rfl hl.1 rfl (Nat.le_of_ble_eq_true rfl) dX3_workOut_159 (fun H locs hP hS => ?_)
                refine W.eq (g2 := F0 m 162 ls [.int r_32, .int ((x4 + (-1)) - (1 : Int32)), .ref (ad 17)]) rfl ?_
                refine nb_iast hx hb had hK hP hS nb_a17 c_30 (nb_t17 _ _) dX3_workOut_162 (fun H locs hP hS => ?_)
                obtain ⟨M_33, e_33, h⟩ := nb_nE h
                rw [e_33] at hP
                refine lv_iinc (v := x5 + 1) (lv' := [(5, .int (x5 + 1)), (4, .int (x4 + (-1))), (6, .int v_3), (0, .ref (ad 15)), (1, .int x1), (2, .int x2), (3, .int x3)]) hx hb dX3_workOut_163 hl (k := 6) rfl (congrArg (HAdd.hAdd x5) (by decide)) (by decide) rfl (fun ls hl => ?_)
                refine lv_goto (tgt := 6) hx hb dX3_workOut_166 (by decide) ?_
                exact ih _ _ _ _ _ _ h _ _ hP hS _ (lv_sub hl [3, 4, 5, 6, 1, 0] rfl)
            · have h := nb_f c_28 h
              refine lv_aload_n hx hb dX3_workOut_91 rfl (lv_at hl 1 rfl) ?_
              refine va_get (v := .ref (ad 17)) (C := RX3) (T := TX3) (N := 3) hx hb hts in3 hown hK.1 hP 15 nb_a15 rfl 2 (by decide) w_3 (fun _ h9 => h9) rfl dX3_workOut_92 ?_
              refine lv_iload hx hb dX3_workOut_95 (lv_at hl 5 rfl) ?_
              refine lv_iconst (v := (1 : Int32)) hx hb dX3_workOut_97 (by decide) ?_
              refine lv_isub hx hb dX3_workOut_98 ?_
              refine lv_aload_n hx hb dX3_workOut_99 rfl (lv_at hl 1 rfl) ?_
              refine va_get (v := .ref (ad 17)) (C := RX3) (T := TX3) (N := 3) hx hb hts in3 hown hK.1 hP 15 nb_a15 rfl 2 (by decide) w_3 (fun _ h9 => h9) rfl dX3_workOut_100 ?_
              refine lv_iload hx hb dX3_workOut_103 (lv_at hl 5 rfl) ?_
              refine lv_iconst (v := (1 : Int32)) hx hb dX3_workOut_105 (by decide) ?_
              refine lv_isub hx hb dX3_workOut_106 ?_
              obtain ⟨c_34, h⟩ := nb_c h
              refine va_iald hx hb hK.1 hP 17 0 nb_a17 rfl c_34 dX3_workOut_107 ?_
              refine lv_if_ne (tgt := 115) hx hb dX3_workOut_108 (by decide) (fun c_35 => ?_) (fun c_35 => ?_)
              · have h := nb_f c_35 h
                refine lv_iconst (v := (0 : Int32)) hx hb dX3_workOut_115 (by decide) ?_
                refine nb_iast hx hb had hK hP hS nb_a17 c_34 (nb_t17 _ _) dX3_workOut_116 (fun H locs hP hS => ?_)
                obtain ⟨M_36, e_36, h⟩ := nb_nE h
                rw [e_36] at hP
                refine lv_goto (tgt := 163) hx hb dX3_workOut_117 (by decide) ?_
                refine lv_iinc (v := x5 + 1) (lv' := [(5, .int (x5 + 1)), (6, .int v_3), (0, .ref (ad 15)), (1, .int x1), (2, .int x2), (3, .int x3), (4, .int x4)]) hx hb dX3_workOut_163 hl (k := 6) rfl (congrArg (HAdd.hAdd x5) (by decide)) (by decide) rfl (fun ls hl => ?_)
                refine lv_goto (tgt := 6) hx hb dX3_workOut_166 (by decide) ?_
                exact ih _ _ _ _ _ _ h _ _ hP hS _ (lv_sub hl [2, 3, 4, 5, 6, 0] rfl)
              · have h := nb_t c_35 h
                refine lv_iconst (v := (1 : Int32)) hx hb dX3_workOut_111 (by decide) ?_
                refine lv_goto (tgt := 116) hx hb dX3_workOut_112 (by decide) ?_
                refine nb_iast hx hb had hK hP hS nb_a17 c_34 (nb_t17 _ _) dX3_workOut_116 (fun H locs hP hS => ?_)
                obtain ⟨M_37, e_37, h⟩ := nb_nE h
                rw [e_37] at hP
                refine lv_goto (tgt := 163) hx hb dX3_workOut_117 (by decide) ?_
                refine lv_iinc (v := x5 + 1) (lv' := [(5, .int (x5 + 1)), (6, .int v_3), (0, .ref (ad 15)), (1, .int x1), (2, .int x2), (3, .int x3), (4, .int x4)]) hx hb dX3_workOut_163 hl (k := 6) rfl (congrArg (HAdd.hAdd x5) (by decide)) (by decide) rfl (fun ls hl => ?_)
                refine lv_goto (tgt := 6) hx hb dX3_workOut_166 (by decide) ?_
                exact ih _ _ _ _ _ _ h _ _ hP hS _ (lv_sub hl [2, 3, 4, 5, 6, 0] rfl)
        · have h := nb_f c_21 h
          refine lv_aload_n hx hb dX3_workOut_39 rfl (lv_at hl 1 rfl) ?_
          refine va_get (v := .ref (ad 17)) (C := RX3) (T := TX3) (N := 3) hx hb hts in3 hown hK.1 hP 15 nb_a15 rfl 2 (by decide) w_3 (fun _ h9 => h9) rfl dX3_workOut_40 ?_
          refine lv_iload hx hb dX3_workOut_43 (lv_at hl 5 rfl) ?_
          refine lv_iload hx hb dX3_workOut_45 (lv_at hl 0 rfl) ?_
          refine lv_sipush (v := (10000 : Int32)) hx hb dX3_workOut_47 (by decide) ?_
          refine lv_icmp_ge (tgt := 58) hx hb dX3_workOut_50 (by decide) (fun c_38 => ?_) (fun c_38 => ?_)
          · have h := nb_t c_38 h
            refine lv_iload hx hb dX3_workOut_58 (lv_at hl 0 rfl) ?_
            refine lv_sipush (v := (10000 : Int32)) hx hb dX3_workOut_60 (by decide) ?_
            refine lv_isub hx hb dX3_workOut_63 ?_
            refine lv_iload_n hx hb dX3_workOut_64 rfl (lv_at hl 2 rfl) ?_
            refine lv_iload_n hx hb dX3_workOut_65 rfl (lv_at hl 3 rfl) ?_
            refine lv_iload_n hx hb dX3_workOut_66 rfl (lv_at hl 4 rfl) ?_
            refine nb_callS (n := 4) (As := [.int (v_3 - (10000 : Int32)), .int x1, .int x2, .int x3]) (rest := [.int x4, .ref (ad 17)]) hx hb hml hown hts hK hZ hP hS (k_X3_named had M N (v_3 - (10000 : Int32)) x1 x2 x3) gX3_workOut_X3_named rfl (by decide +kernel) (nb_rm (Nat.le_of_ble_eq_true rfl) (Nat.le_of_ble_eq_true rfl)) rfl hl.1 rfl (Nat.le_of_ble_eq_true rfl) dX3_workOut_67 (fun H locs hP hS => ?_)
            refine W.eq (g2 := F0 m 70 ls [.int (f_X3_named (v_3 - (10000 : Int32)) x1 x2 x3), .int x4, .ref (ad 17)]) rfl ?_
            obtain ⟨c_40, h⟩ := nb_c h
            refine nb_iast hx hb had hK hP hS nb_a17 c_40 (nb_t17 _ _) dX3_workOut_70 (fun H locs hP hS => ?_)
            obtain ⟨M_41, e_41, h⟩ := nb_nE h
            rw [e_41] at hP
            refine lv_iinc (v := x4 + 1) (lv' := [(4, .int (x4 + 1)), (6, .int v_3), (0, .ref (ad 15)), (1, .int x1), (2, .int x2), (3, .int x3), (5, .int x5)]) hx hb dX3_workOut_71 hl (k := 5) rfl (congrArg (HAdd.hAdd x4) (by decide)) (by decide) rfl (fun ls hl => ?_)
            refine lv_goto (tgt := 163) hx hb dX3_workOut_74 (by decide) ?_
            refine lv_iinc (v := x5 + 1) (lv' := [(5, .int (x5 + 1)), (4, .int (x4 + 1)), (6, .int v_3), (0, .ref (ad 15)), (1, .int x1), (2, .int x2), (3, .int x3)]) hx hb dX3_workOut_163 hl (k := 6) rfl (congrArg (HAdd.hAdd x5) (by decide)) (by decide) rfl (fun ls hl => ?_)
            refine lv_goto (tgt := 6) hx hb dX3_workOut_166 (by decide) ?_
            exact ih _ _ _ _ _ _ h _ _ hP hS _ (lv_sub hl [3, 4, 5, 6, 1, 0] rfl)
          · have h := nb_f c_38 h
            refine lv_iload hx hb dX3_workOut_53 (lv_at hl 0 rfl) ?_
            refine lv_goto (tgt := 70) hx hb dX3_workOut_55 (by decide) ?_
            obtain ⟨c_42, h⟩ := nb_c h
            refine nb_iast hx hb had hK hP hS nb_a17 c_42 (nb_t17 _ _) dX3_workOut_70 (fun H locs hP hS => ?_)
            obtain ⟨M_43, e_43, h⟩ := nb_nE h
            rw [e_43] at hP
            refine lv_iinc (v := x4 + 1) (lv' := [(4, .int (x4 + 1)), (6, .int v_3), (0, .ref (ad 15)), (1, .int x1), (2, .int x2), (3, .int x3), (5, .int x5)]) hx hb dX3_workOut_71 hl (k := 5) rfl (congrArg (HAdd.hAdd x4) (by decide)) (by decide) rfl (fun ls hl => ?_)
            refine lv_goto (tgt := 163) hx hb dX3_workOut_74 (by decide) ?_
            refine lv_iinc (v := x5 + 1) (lv' := [(5, .int (x5 + 1)), (4, .int (x4 + 1)), (6, .int v_3), (0, .ref (ad 15)), (1, .int x1), (2, .int x2), (3, .int x3)]) hx hb dX3_workOut_163 hl (k := 6) rfl (congrArg (HAdd.hAdd x5) (by decide)) (by decide) rfl (fun ls hl => ?_)
            refine lv_goto (tgt := 6) hx hb dX3_workOut_166 (by decide) ?_
            exact ih _ _ _ _ _ _ h _ _ hP hS _ (lv_sub hl [3, 4, 5, 6, 1, 0] rfl)
set_option maxHeartbeats 4000000 in
set_option maxRecDepth 100000 in
theorem k_X3_workOut_15 {r : Int32} {M' : nb_M} (had : nb_AD ad b0) (M N : nb_M) (p0 : Int32) (p1 : Int32) (p2 : Int32) (h : f_X3_workOut_15 M p0 p1 p2 = some (r, M')) : nb_C l D ad ca b0 yX3_workOut wsX3_workOut 1 [.ref (ad 15), .int p0, .int p1, .int p2] M N (some (.int r)) M' N := by
  refine nb_of (cc := cX3_workOut) (maxL := 7) (ret := (some .int)) (own := RX3) (by decide +kernel) rfl rfl (Nat.le_of_ble_eq_true rfl) ?_
  intro p e s m args below meth c ls X hP hS hl
  have hl : lv_has ls 7 [(0, .ref (ad 15)), (1, .int p0), (2, .int p1), (3, .int p2)] := hl
  obtain ⟨hx, hb, hml, hown, hts, hr, hlk, hK, hZ⟩ := id X
  unfold f_X3_workOut_15 at h
  refine lv_iconst (v := (0 : Int32)) hx hb dX3_workOut_0 (by decide) ?_
  refine lv_istore (lv' := [(4, .int (0 : Int32)), (0, .ref (ad 15)), (1, .int p0), (2, .int p1), (3, .int p2)]) hx hb dX3_workOut_1 hl (by decide) rfl (fun ls hl => ?_)
  refine lv_iconst (v := (0 : Int32)) hx hb dX3_workOut_3 (by decide) ?_
  refine lv_istore (lv' := [(5, .int (0 : Int32)), (4, .int (0 : Int32)), (0, .ref (ad 15)), (1, .int p0), (2, .int p1), (3, .int p2)]) hx hb dX3_workOut_4 hl (by decide) rfl (fun ls hl => ?_)
  exact w_X3_workOut_15_6 had X nb_F _ _ _ _ _ _ h _ _ hP hS _ (lv_sub hl [2, 3, 4, 5, 1, 0] rfl)
set_option maxHeartbeats 4000000 in
set_option maxRecDepth 100000 in
theorem k_X0_gives {r : Int32} {M' : nb_M} (had : nb_AD ad b0) (M N : nb_M) (p0 : Int32) (p1 : Int32) (p2 : Int32) (p3 : Int32) (h : f_X0_gives M p0 p1 p2 p3 = some (r, M')) : nb_C l D ad ca b0 yX0_gives wsX0_gives 2 [.ref (ad 1), .int p0, .int p1, .int p2, .int p3] M N (some (.int r)) M' N := by
  refine nb_of (cc := cX0_gives) (maxL := 6) (ret := (some .int)) (own := RX0) (by decide +kernel) rfl rfl (Nat.le_of_ble_eq_true rfl) ?_
  intro p e s m args below meth c ls X hP hS hl
  have hl : lv_has ls 6 [(0, .ref (ad 1)), (1, .int p0), (2, .int p1), (3, .int p2), (4, .int p3)] := hl
  obtain ⟨hx, hb, hml, hown, hts, hr, hlk, hK, hZ⟩ := id X
  obtain ⟨_, hN1, hN2, hN3, hN4, hN5, hN6⟩ := id hK
  have w_1 := hts (.fieldLink RX0 45 "NineBreakages$House" "texts" "[LNineBreakages$Text;") (by decide +kernel)
  have in0 : ∀ w ∈ u_ws RX0 TX0 16, w ∈ wsX0_gives := fun w q => List.mem_cons_of_mem _ (List.mem_append_left _ (List.mem_append_right _ q))
  have w_3 := hts (.initialized RX6) (by decide +kernel)
  have w_4 := hts (.static yX6_held) (by decide +kernel)
  unfold f_X0_gives at h
  refine lv_aload_n hx hb dX0_gives_0 rfl (lv_at hl 0 rfl) ?_
  refine va_get (v := .ref (ad 9)) (C := RX0) (T := TX0) (N := 16) hx hb hts in0 hown hK.1 hP 1 nb_a1 rfl 11 (by decide) w_1 (fun _ h9 => h9) rfl dX0_gives_1 ?_
  refine lv_iload_n hx hb dX0_gives_4 rfl (lv_at hl 1 rfl) ?_
  by_cases c_1 : p0 = 0
  · have h := nb_t c_1 h
    refine nb_ald (t0 := 2) (E := RX3) (v := (0 : Int32)) hx hb hK hP nb_a9 rfl c_1 (nb_lit rfl) rfl dX0_gives_5 ?_
    refine lv_astore (lv' := [(5, .ref (ad 12)), (0, .ref (ad 1)), (1, .int p0), (2, .int p1), (3, .int p2), (4, .int p3)]) hx hb dX0_gives_6 hl (by decide) rfl (fun ls hl => ?_)
    refine lv_iload_n hx hb dX0_gives_8 rfl (lv_at hl 2 rfl) ?_
    refine lv_if_ne (tgt := 39) hx hb dX0_gives_9 (by decide) (fun c_2 => absurd c_1 c_2) (fun _ => ?_)
    refine lv_aload hx hb dX0_gives_12 (lv_at hl 0 rfl) ?_
    refine nb_callV (n := 0) (As := []) (rest := []) hx hb hml hown hts hK hZ hP hS (k_X3_isThere_12 had M N) gX0_gives_X3_isThere rfl (by decide +kernel) (nb_rm (Nat.le_of_ble_eq_true rfl) (Nat.le_of_ble_eq_true rfl)) nb_a12 rfl rfl rfl hl.1 rfl (Nat.le_of_ble_eq_true rfl) dX0_gives_14 (fun H locs hP hS => ?_)
    refine W.eq (g2 := F0 m 17 ls [.int (f_X3_isThere_12 M)]) rfl ?_
    refine lv_if_eq (tgt := 32) hx hb dX0_gives_17 (by decide) (fun c_4 => ?_) (fun c_4 => ?_)
    · have h := nb_t c_4 h
      refine lv_iload_n hx hb dX0_gives_32 rfl (lv_at hl 3 rfl) ?_
      refine lv_bipush (v := (16 : Int32)) hx hb dX0_gives_33 (by decide) ?_
      refine nb_callN (n := 2) (As := [.int p1, .int (16 : Int32)]) (rest := []) hx hb hml hown hts hK hZ hP hS (k_X6_held had M N p1 (16 : Int32)) gX0_gives_X6_held_n121 rfl hN2 w_3 w_4 (by decide +kernel) (nb_rm (Nat.le_of_ble_eq_true rfl) (Nat.le_of_ble_eq_true rfl)) rfl hl.1 rfl (Nat.le_of_ble_eq_true rfl) dX0_gives_35 (fun H locs hP hS => ?_)
      refine W.eq (g2 := F0 m 38 ls [.int (f_X6_held p1 (16 : Int32))]) rfl ?_
      obtain ⟨rfl, rfl⟩ := nb_e2 h
      exact nb_iret hx hb hr hlk hP hS dX0_gives_38
    · have h := nb_f c_4 h
      refine lv_aload hx hb dX0_gives_20 (lv_at hl 0 rfl) ?_
      refine lv_iload_n hx hb dX0_gives_22 rfl (lv_at hl 3 rfl) ?_
      refine lv_iload_n hx hb dX0_gives_23 rfl (lv_at hl 4 rfl) ?_
      refine lv_iload hx hb dX0_gives_24 (lv_at hl 5 rfl) ?_
      obtain ⟨r_6, M_6, e_6, h⟩ := nb_pE h
      refine nb_callV (n := 3) (As := [.int p1, .int p2, .int p3]) (rest := []) hx hb hml hown hts hK hZ hP hS (k_X3_workOut_12 had M N p1 p2 p3 e_6) gX0_gives_X3_workOut rfl (by decide +kernel) (nb_rm (Nat.le_of_ble_eq_true rfl) (Nat.le_of_ble_eq_true rfl)) nb_a12 rfl rfl rfl hl.1 rfl (Nat.le_of_ble_eq_true rfl) dX0_gives_26 (fun H locs hP hS => ?_)
      refine W.eq (g2 := F0 m 29 ls [.int r_6]) rfl ?_
      refine lv_goto (tgt := 33) hx hb dX0_gives_29 (by decide) ?_
      refine lv_bipush (v := (16 : Int32)) hx hb dX0_gives_33 (by decide) ?_
      refine nb_callN (n := 2) (As := [.int r_6, .int (16 : Int32)]) (rest := []) hx hb hml hown hts hK hZ hP hS (k_X6_held had M_6 N r_6 (16 : Int32)) gX0_gives_X6_held_n121 rfl hN2 w_3 w_4 (by decide +kernel) (nb_rm (Nat.le_of_ble_eq_true rfl) (Nat.le_of_ble_eq_true rfl)) rfl hl.1 rfl (Nat.le_of_ble_eq_true rfl) dX0_gives_35 (fun H locs hP hS => ?_)
      refine W.eq (g2 := F0 m 38 ls [.int (f_X6_held r_6 (16 : Int32))]) rfl ?_
      obtain ⟨rfl, rfl⟩ := nb_e2 h
      exact nb_iret hx hb hr hlk hP hS dX0_gives_38
  · have h := nb_f c_1 h
    by_cases c_8 : p0 = 1
    · have h := nb_t c_8 h
      refine nb_ald (t0 := 2) (E := RX3) (v := (1 : Int32)) hx hb hK hP nb_a9 rfl c_8 (nb_lit rfl) rfl dX0_gives_5 ?_
      refine lv_astore (lv' := [(5, .ref (ad 15)), (0, .ref (ad 1)), (1, .int p0), (2, .int p1), (3, .int p2), (4, .int p3)]) hx hb dX0_gives_6 hl (by decide) rfl (fun ls hl => ?_)
      refine lv_iload_n hx hb dX0_gives_8 rfl (lv_at hl 2 rfl) ?_
      refine lv_if_ne (tgt := 39) hx hb dX0_gives_9 (by decide) (fun _ => ?_) (fun c_9 => absurd c_9 (by rw [c_8]; decide))
      refine lv_aload hx hb dX0_gives_39 (lv_at hl 0 rfl) ?_
      refine nb_callV (n := 0) (As := []) (rest := []) hx hb hml hown hts hK hZ hP hS (k_X3_isThere_15 had M N) gX0_gives_X3_isThere rfl (by decide +kernel) (nb_rm (Nat.le_of_ble_eq_true rfl) (Nat.le_of_ble_eq_true rfl)) nb_a15 rfl rfl rfl hl.1 rfl (Nat.le_of_ble_eq_true rfl) dX0_gives_41 (fun H locs hP hS => ?_)
      refine W.eq (g2 := F0 m 44 ls [.int (f_X3_isThere_15 M)]) rfl ?_
      refine lv_if_eq (tgt := 59) hx hb dX0_gives_44 (by decide) (fun c_11 => ?_) (fun c_11 => ?_)
      · have h := nb_t c_11 h
        refine lv_bipush (v := (10 : Int32)) hx hb dX0_gives_59 (by decide) ?_
        refine lv_iload_n hx hb dX0_gives_61 rfl (lv_at hl 3 rfl) ?_
        refine lv_imul hx hb dX0_gives_62 ?_
        refine lv_sipush (v := (199 : Int32)) hx hb dX0_gives_63 (by decide) ?_
        refine nb_callN (n := 2) (As := [.int ((10 : Int32) * p1), .int (199 : Int32)]) (rest := []) hx hb hml hown hts hK hZ hP hS (k_X6_held had M N ((10 : Int32) * p1) (199 : Int32)) gX0_gives_X6_held_n121 rfl hN2 w_3 w_4 (by decide +kernel) (nb_rm (Nat.le_of_ble_eq_true rfl) (Nat.le_of_ble_eq_true rfl)) rfl hl.1 rfl (Nat.le_of_ble_eq_true rfl) dX0_gives_66 (fun H locs hP hS => ?_)
        refine W.eq (g2 := F0 m 69 ls [.int (f_X6_held ((10 : Int32) * p1) (199 : Int32))]) rfl ?_
        obtain ⟨rfl, rfl⟩ := nb_e2 h
        exact nb_iret hx hb hr hlk hP hS dX0_gives_69
      · have h := nb_f c_11 h
        refine lv_aload hx hb dX0_gives_47 (lv_at hl 0 rfl) ?_
        refine lv_iload_n hx hb dX0_gives_49 rfl (lv_at hl 3 rfl) ?_
        refine lv_iload_n hx hb dX0_gives_50 rfl (lv_at hl 4 rfl) ?_
        refine lv_iload hx hb dX0_gives_51 (lv_at hl 5 rfl) ?_
        obtain ⟨r_13, M_13, e_13, h⟩ := nb_pE h
        refine nb_callV (n := 3) (As := [.int p1, .int p2, .int p3]) (rest := []) hx hb hml hown hts hK hZ hP hS (k_X3_workOut_15 had M N p1 p2 p3 e_13) gX0_gives_X3_workOut rfl (by decide +kernel) (nb_rm (Nat.le_of_ble_eq_true rfl) (Nat.le_of_ble_eq_true rfl)) nb_a15 rfl rfl rfl hl.1 rfl (Nat.le_of_ble_eq_true rfl) dX0_gives_53 (fun H locs hP hS => ?_)
        refine W.eq (g2 := F0 m 56 ls [.int r_13]) rfl ?_
        refine lv_goto (tgt := 63) hx hb dX0_gives_56 (by decide) ?_
        refine lv_sipush (v := (199 : Int32)) hx hb dX0_gives_63 (by decide) ?_
        refine nb_callN (n := 2) (As := [.int r_13, .int (199 : Int32)]) (rest := []) hx hb hml hown hts hK hZ hP hS (k_X6_held had M_13 N r_13 (199 : Int32)) gX0_gives_X6_held_n121 rfl hN2 w_3 w_4 (by decide +kernel) (nb_rm (Nat.le_of_ble_eq_true rfl) (Nat.le_of_ble_eq_true rfl)) rfl hl.1 rfl (Nat.le_of_ble_eq_true rfl) dX0_gives_66 (fun H locs hP hS => ?_)
        refine W.eq (g2 := F0 m 69 ls [.int (f_X6_held r_13 (199 : Int32))]) rfl ?_
        obtain ⟨rfl, rfl⟩ := nb_e2 h
        exact nb_iret hx hb hr hlk hP hS dX0_gives_69
    · have h := nb_f c_8 h
      cases h
set_option maxHeartbeats 4000000 in
set_option maxRecDepth 100000 in
theorem k_X0_yearsOf {r : Int32} {M' : nb_M} (had : nb_AD ad b0) (M N : nb_M) (p0 : Int32) (h : f_X0_yearsOf M p0 = some (r, M')) : nb_C l D ad ca b0 yX0_yearsOf wsX0_yearsOf 3 [.ref (ad 1), .int p0] M N (some (.int r)) M' N := by
  refine nb_of (cc := cX0_yearsOf) (maxL := 2) (ret := (some .int)) (own := RX0) (by decide +kernel) rfl rfl (Nat.le_of_ble_eq_true rfl) ?_
  intro p e s m args below meth c ls X hP hS hl
  have hl : lv_has ls 2 [(0, .ref (ad 1)), (1, .int p0)] := hl
  obtain ⟨hx, hb, hml, hown, hts, hr, hlk, hK, hZ⟩ := id X
  unfold f_X0_yearsOf at h
  refine lv_aload_n hx hb dX0_yearsOf_0 rfl (lv_at hl 0 rfl) ?_
  refine lv_iconst (v := (1 : Int32)) hx hb dX0_yearsOf_1 (by decide) ?_
  refine lv_aload_n hx hb dX0_yearsOf_2 rfl (lv_at hl 0 rfl) ?_
  refine lv_iload_n hx hb dX0_yearsOf_3 rfl (lv_at hl 1 rfl) ?_
  obtain ⟨r_1, e_1, h⟩ := nb_oE h
  refine nb_callV (n := 1) (As := [.int p0]) (rest := [.int (1 : Int32), .ref (ad 1)]) hx hb hml hown hts hK hZ hP hS (k_X0_toComeOf had M N p0 e_1) gX0_yearsOf_X0_toComeOf rfl (by decide +kernel) (nb_rm (Nat.le_of_ble_eq_true rfl) (Nat.le_of_ble_eq_true rfl)) nb_a1 rfl rfl rfl hl.1 rfl (Nat.le_of_ble_eq_true rfl) dX0_yearsOf_4 (fun H locs hP hS => ?_)
  refine W.eq (g2 := F0 m 7 ls [.int r_1, .int (1 : Int32), .ref (ad 1)]) rfl ?_
  refine lv_aload_n hx hb dX0_yearsOf_7 rfl (lv_at hl 0 rfl) ?_
  obtain ⟨r_2, e_2, h⟩ := nb_oE h
  refine nb_callV (n := 0) (As := []) (rest := [.int r_1, .int (1 : Int32), .ref (ad 1)]) hx hb hml hown hts hK hZ hP hS (k_X0_shards had M N e_2) gX0_yearsOf_X0_shards rfl (by decide +kernel) (nb_rm (Nat.le_of_ble_eq_true rfl) (Nat.le_of_ble_eq_true rfl)) nb_a1 rfl rfl rfl hl.1 rfl (Nat.le_of_ble_eq_true rfl) dX0_yearsOf_8 (fun H locs hP hS => ?_)
  refine W.eq (g2 := F0 m 11 ls [.int r_2, .int r_1, .int (1 : Int32), .ref (ad 1)]) rfl ?_
  refine lv_iload_n hx hb dX0_yearsOf_11 rfl (lv_at hl 1 rfl) ?_
  obtain ⟨r_3, M_3, e_3, h⟩ := nb_pE h
  refine nb_callV (n := 4) (As := [.int (1 : Int32), .int r_1, .int r_2, .int p0]) (rest := []) hx hb hml hown hts hK hZ hP hS (k_X0_gives had M N (1 : Int32) r_1 r_2 p0 e_3) gX0_yearsOf_X0_gives rfl (by decide +kernel) (nb_rm (Nat.le_of_ble_eq_true rfl) (Nat.le_of_ble_eq_true rfl)) nb_a1 rfl rfl rfl hl.1 rfl (Nat.le_of_ble_eq_true rfl) dX0_yearsOf_12 (fun H locs hP hS => ?_)
  refine W.eq (g2 := F0 m 15 ls [.int r_3]) rfl ?_
  obtain ⟨rfl, rfl⟩ := nb_e2 h
  exact nb_iret hx hb hr hlk hP hS dX0_yearsOf_15
set_option maxHeartbeats 4000000 in
set_option maxRecDepth 100000 in
theorem k_X6_personIs {r : Int32} {M' : nb_M} (had : nb_AD ad b0) (M N : nb_M) (p0 : Int32) (p1 : Int32) (h : f_X6_personIs M p0 p1 = some (r, M')) : nb_C l D ad ca b0 yX6_personIs wsX6_personIs 4 [.ref (ad 0), .int p0, .int p1] M N (some (.int r)) M' N := by
  refine nb_of (cc := cX6_personIs) (maxL := 3) (ret := (some .int)) (own := RX6) (by decide +kernel) rfl rfl (Nat.le_of_ble_eq_true rfl) ?_
  intro p e s m args below meth c ls X hP hS hl
  have hl : lv_has ls 3 [(0, .ref (ad 0)), (1, .int p0), (2, .int p1)] := hl
  obtain ⟨hx, hb, hml, hown, hts, hr, hlk, hK, hZ⟩ := id X
  have w_1 := hts (.fieldLink RX6 12 "NineBreakages" "now" "LNineBreakages$House;") (by decide +kernel)
  have in6 : ∀ w ∈ u_ws RX6 TX6 8, w ∈ wsX6_personIs := fun w q => List.mem_cons_of_mem _ (List.mem_append_left _ (List.mem_append_left _ (List.mem_append_right _ q)))
  have w_3 := hts (.fieldLink RX6 71 "NineBreakages$House" "care" "[I") (by decide +kernel)
  have in0 : ∀ w ∈ u_ws RX0 TX0 16, w ∈ wsX6_personIs := fun w q => List.mem_cons_of_mem _ (List.mem_append_left _ (List.mem_append_right _ q))
  have w_5 := hts (.fieldLink RX6 74 "NineBreakages$House" "due" "[I") (by decide +kernel)
  have w_6 := hts (.fieldLink RX6 77 "NineBreakages$House" "had" "[I") (by decide +kernel)
  unfold f_X6_personIs at h
  refine lv_aload_n hx hb dX6_personIs_0 rfl (lv_at hl 0 rfl) ?_
  refine va_get (v := .ref (ad 1)) (C := RX6) (T := TX6) (N := 8) hx hb hts in6 hown hK.1 hP 0 nb_a0 rfl 0 (by decide) w_1 (fun _ h9 => h9) rfl dX6_personIs_1 ?_
  refine lv_iload_n hx hb dX6_personIs_4 rfl (lv_at hl 1 rfl) ?_
  refine nb_callV (n := 1) (As := [.int p0]) (rest := []) hx hb hml hown hts hK hZ hP hS (k_X0_isPerson had M N p0) gX6_personIs_X0_isPerson rfl (by decide +kernel) (nb_rm (Nat.le_of_ble_eq_true rfl) (Nat.le_of_ble_eq_true rfl)) nb_a1 rfl rfl rfl hl.1 rfl (Nat.le_of_ble_eq_true rfl) dX6_personIs_5 (fun H locs hP hS => ?_)
  refine W.eq (g2 := F0 m 8 ls [.int (f_X0_isPerson M p0)]) rfl ?_
  refine lv_if_ne (tgt := 17) hx hb dX6_personIs_8 (by decide) (fun c_2 => ?_) (fun c_2 => ?_)
  · have h := nb_f c_2 h
    refine lv_iload_n hx hb dX6_personIs_17 rfl (lv_at hl 2 rfl) ?_
    refine nb_tsw [(0, 52), (1, 62), (2, 72), (3, 82), (4, 94)] 103 hx hb dX6_personIs_18 (by decide +kernel) ?_
    refine nb_split (fun c_3 => ?_) (fun c_3 => ?_)
    · have h := nb_t c_3 h
      refine lv_aload_n hx hb dX6_personIs_52 rfl (lv_at hl 0 rfl) ?_
      refine va_get (v := .ref (ad 1)) (C := RX6) (T := TX6) (N := 8) hx hb hts in6 hown hK.1 hP 0 nb_a0 rfl 0 (by decide) w_1 (fun _ h9 => h9) rfl dX6_personIs_53 ?_
      refine va_get (v := .ref (ad 2)) (C := RX0) (T := TX0) (N := 16) hx hb hts in0 hown hK.1 hP 1 nb_a1 rfl 3 (by decide) w_3 (fun _ h9 => h9) rfl dX6_personIs_56 ?_
      refine lv_iload_n hx hb dX6_personIs_59 rfl (lv_at hl 1 rfl) ?_
      obtain ⟨c_4, h⟩ := nb_c h
      refine va_iald hx hb hK.1 hP 2 0 nb_a2 rfl c_4 dX6_personIs_60 ?_
      obtain ⟨rfl, rfl⟩ := nb_e2 h
      exact nb_iret hx hb hr hlk hP hS dX6_personIs_61
    · have h := nb_f c_3 h
      refine nb_split (fun c_5 => ?_) (fun c_5 => ?_)
      · have h := nb_t c_5 h
        refine lv_aload_n hx hb dX6_personIs_62 rfl (lv_at hl 0 rfl) ?_
        refine va_get (v := .ref (ad 1)) (C := RX6) (T := TX6) (N := 8) hx hb hts in6 hown hK.1 hP 0 nb_a0 rfl 0 (by decide) w_1 (fun _ h9 => h9) rfl dX6_personIs_63 ?_
        refine va_get (v := .ref (ad 3)) (C := RX0) (T := TX0) (N := 16) hx hb hts in0 hown hK.1 hP 1 nb_a1 rfl 4 (by decide) w_5 (fun _ h9 => h9) rfl dX6_personIs_66 ?_
        refine lv_iload_n hx hb dX6_personIs_69 rfl (lv_at hl 1 rfl) ?_
        obtain ⟨c_6, h⟩ := nb_c h
        refine va_iald hx hb hK.1 hP 3 0 nb_a3 rfl c_6 dX6_personIs_70 ?_
        obtain ⟨rfl, rfl⟩ := nb_e2 h
        exact nb_iret hx hb hr hlk hP hS dX6_personIs_71
      · have h := nb_f c_5 h
        refine nb_split (fun c_7 => ?_) (fun c_7 => ?_)
        · have h := nb_t c_7 h
          refine lv_aload_n hx hb dX6_personIs_72 rfl (lv_at hl 0 rfl) ?_
          refine va_get (v := .ref (ad 1)) (C := RX6) (T := TX6) (N := 8) hx hb hts in6 hown hK.1 hP 0 nb_a0 rfl 0 (by decide) w_1 (fun _ h9 => h9) rfl dX6_personIs_73 ?_
          refine va_get (v := .ref (ad 4)) (C := RX0) (T := TX0) (N := 16) hx hb hts in0 hown hK.1 hP 1 nb_a1 rfl 5 (by decide) w_6 (fun _ h9 => h9) rfl dX6_personIs_76 ?_
          refine lv_iload_n hx hb dX6_personIs_79 rfl (lv_at hl 1 rfl) ?_
          obtain ⟨c_8, h⟩ := nb_c h
          refine va_iald hx hb hK.1 hP 4 0 nb_a4 rfl c_8 dX6_personIs_80 ?_
          obtain ⟨rfl, rfl⟩ := nb_e2 h
          exact nb_iret hx hb hr hlk hP hS dX6_personIs_81
        · have h := nb_f c_7 h
          refine nb_split (fun c_9 => ?_) (fun c_9 => ?_)
          · have h := nb_t c_9 h
            refine lv_aload_n hx hb dX6_personIs_82 rfl (lv_at hl 0 rfl) ?_
            refine va_get (v := .ref (ad 1)) (C := RX6) (T := TX6) (N := 8) hx hb hts in6 hown hK.1 hP 0 nb_a0 rfl 0 (by decide) w_1 (fun _ h9 => h9) rfl dX6_personIs_83 ?_
            refine lv_iload_n hx hb dX6_personIs_86 rfl (lv_at hl 1 rfl) ?_
            obtain ⟨r_10, e_10, h⟩ := nb_oE h
            refine nb_callV (n := 1) (As := [.int p0]) (rest := []) hx hb hml hown hts hK hZ hP hS (k_X0_isThrough had M N p0 e_10) gX6_personIs_X0_isThrough rfl (by decide +kernel) (nb_rm (Nat.le_of_ble_eq_true rfl) (Nat.le_of_ble_eq_true rfl)) nb_a1 rfl rfl rfl hl.1 rfl (Nat.le_of_ble_eq_true rfl) dX6_personIs_87 (fun H locs hP hS => ?_)
            refine W.eq (g2 := F0 m 90 ls [.int r_10]) rfl ?_
            refine nb_callS (n := 1) (As := [.int r_10]) (rest := []) hx hb hml hown hts hK hZ hP hS (k_X6_bit had M N r_10) gX6_personIs_X6_bit rfl (by decide +kernel) (nb_rm (Nat.le_of_ble_eq_true rfl) (Nat.le_of_ble_eq_true rfl)) rfl hl.1 rfl (Nat.le_of_ble_eq_true rfl) dX6_personIs_90 (fun H locs hP hS => ?_)
            refine W.eq (g2 := F0 m 93 ls [.int (f_X6_bit r_10)]) rfl ?_
            obtain ⟨rfl, rfl⟩ := nb_e2 h
            exact nb_iret hx hb hr hlk hP hS dX6_personIs_93
          · have h := nb_f c_9 h
            refine nb_split (fun c_12 => ?_) (fun c_12 => ?_)
            · have h := nb_t c_12 h
              refine lv_aload_n hx hb dX6_personIs_94 rfl (lv_at hl 0 rfl) ?_
              refine va_get (v := .ref (ad 1)) (C := RX6) (T := TX6) (N := 8) hx hb hts in6 hown hK.1 hP 0 nb_a0 rfl 0 (by decide) w_1 (fun _ h9 => h9) rfl dX6_personIs_95 ?_
              refine lv_iload_n hx hb dX6_personIs_98 rfl (lv_at hl 1 rfl) ?_
              obtain ⟨r_13, M_13, e_13, h⟩ := nb_pE h
              refine nb_callV (n := 1) (As := [.int p0]) (rest := []) hx hb hml hown hts hK hZ hP hS (k_X0_yearsOf had M N p0 e_13) gX6_personIs_X0_yearsOf rfl (by decide +kernel) (nb_rm (Nat.le_of_ble_eq_true rfl) (Nat.le_of_ble_eq_true rfl)) nb_a1 rfl rfl rfl hl.1 rfl (Nat.le_of_ble_eq_true rfl) dX6_personIs_99 (fun H locs hP hS => ?_)
              refine W.eq (g2 := F0 m 102 ls [.int r_13]) rfl ?_
              obtain ⟨rfl, rfl⟩ := nb_e2 h
              exact nb_iret hx hb hr hlk hP hS dX6_personIs_102
            · have h := nb_f c_12 h
              refine W.eq (g2 := F0 m 103 ls []) rfl ?_
              refine lv_aload_n hx hb dX6_personIs_103 rfl (lv_at hl 0 rfl) ?_
              refine lv_iconst (v := (1 : Int32)) hx hb dX6_personIs_104 (by decide) ?_
              obtain ⟨r_14, M_14, e_14, h⟩ := nb_pE h
              refine nb_callV (n := 1) (As := [.int (1 : Int32)]) (rest := []) hx hb hml hown hts hK hZ hP hS (k_X6_fail had M N (1 : Int32) e_14) gX6_personIs_X6_fail rfl (by decide +kernel) (nb_rm (Nat.le_of_ble_eq_true rfl) (Nat.le_of_ble_eq_true rfl)) nb_a0 rfl rfl rfl hl.1 rfl (Nat.le_of_ble_eq_true rfl) dX6_personIs_105 (fun H locs hP hS => ?_)
              refine W.eq (g2 := F0 m 108 ls [.int r_14]) rfl ?_
              obtain ⟨rfl, rfl⟩ := nb_e2 h
              exact nb_iret hx hb hr hlk hP hS dX6_personIs_108
  · have h := nb_t c_2 h
    refine lv_aload_n hx hb dX6_personIs_11 rfl (lv_at hl 0 rfl) ?_
    refine lv_iconst (v := (1 : Int32)) hx hb dX6_personIs_12 (by decide) ?_
    obtain ⟨r_15, M_15, e_15, h⟩ := nb_pE h
    refine nb_callV (n := 1) (As := [.int (1 : Int32)]) (rest := []) hx hb hml hown hts hK hZ hP hS (k_X6_fail had M N (1 : Int32) e_15) gX6_personIs_X6_fail rfl (by decide +kernel) (nb_rm (Nat.le_of_ble_eq_true rfl) (Nat.le_of_ble_eq_true rfl)) nb_a0 rfl rfl rfl hl.1 rfl (Nat.le_of_ble_eq_true rfl) dX6_personIs_13 (fun H locs hP hS => ?_)
    refine W.eq (g2 := F0 m 16 ls [.int r_15]) rfl ?_
    obtain ⟨rfl, rfl⟩ := nb_e2 h
    exact nb_iret hx hb hr hlk hP hS dX6_personIs_16
set_option maxHeartbeats 4000000 in
set_option maxRecDepth 100000 in
theorem k_X0_shape {M' : nb_M} (had : nb_AD ad b0) (M N : nb_M) (p0 : Int32) (p1 : Int32) (h : f_X0_shape M p0 p1 = some (M')) : nb_C l D ad ca b0 yX0_shape wsX0_shape 0 [.ref (ad 1), .int p0, .int p1] M N none M' N := by
  refine nb_of (cc := cX0_shape) (maxL := 3) (ret := none) (own := RX0) (by decide +kernel) rfl rfl (Nat.le_of_ble_eq_true rfl) ?_
  intro p e s m args below meth c ls X hP hS hl
  have hl : lv_has ls 3 [(0, .ref (ad 1)), (1, .int p0), (2, .int p1)] := hl
  obtain ⟨hx, hb, hml, hown, hts, hr, hlk, hK, hZ⟩ := id X
  have w_1 := hts (.fieldLink RX0 25 "NineBreakages$House" "kind" "[I") (by decide +kernel)
  have in0 : ∀ w ∈ u_ws RX0 TX0 16, w ∈ wsX0_shape := fun w q => List.mem_cons_of_mem _ (List.mem_append_right _ q)
  have w_3 := hts (.fieldLink RX0 28 "NineBreakages$House" "number" "[I") (by decide +kernel)
  unfold f_X0_shape at h
  refine lv_aload_n hx hb dX0_shape_0 rfl (lv_at hl 0 rfl) ?_
  refine va_get (v := .ref (ad 5)) (C := RX0) (T := TX0) (N := 16) hx hb hts in0 hown hK.1 hP 1 nb_a1 rfl 7 (by decide) w_1 (fun _ h9 => h9) rfl dX0_shape_1 ?_
  refine lv_iload_n hx hb dX0_shape_4 rfl (lv_at hl 1 rfl) ?_
  refine lv_iload_n hx hb dX0_shape_5 rfl (lv_at hl 2 rfl) ?_
  refine lv_bipush (v := (10 : Int32)) hx hb dX0_shape_6 (by decide) ?_
  refine lv_idiv hx hb dX0_shape_8 (by decide) ?_
  obtain ⟨c_1, h⟩ := nb_c h
  refine nb_iast hx hb had hK hP hS nb_a5 c_1 (nb_t5 _ _) dX0_shape_9 (fun H locs hP hS => ?_)
  obtain ⟨M_2, e_2, h⟩ := nb_nE h
  rw [e_2] at hP
  refine lv_aload_n hx hb dX0_shape_10 rfl (lv_at hl 0 rfl) ?_
  refine va_get (v := .ref (ad 6)) (C := RX0) (T := TX0) (N := 16) hx hb hts in0 hown hK.1 hP 1 nb_a1 rfl 8 (by decide) w_3 (fun _ h9 => h9) rfl dX0_shape_11 ?_
  refine lv_iload_n hx hb dX0_shape_14 rfl (lv_at hl 1 rfl) ?_
  refine lv_iload_n hx hb dX0_shape_15 rfl (lv_at hl 2 rfl) ?_
  refine lv_bipush (v := (10 : Int32)) hx hb dX0_shape_16 (by decide) ?_
  refine lv_irem hx hb dX0_shape_18 (by decide) ?_
  refine nb_iast hx hb had hK hP hS nb_a6 c_1 (nb_t6 _ _) dX0_shape_19 (fun H locs hP hS => ?_)
  obtain ⟨M_3, e_3, h⟩ := nb_nE h
  rw [e_3] at hP
  obtain rfl := nb_e1 h
  exact nb_vret hx hb hr hlk hP hS dX0_shape_20
set_option maxHeartbeats 4000000 in
set_option maxRecDepth 100000 in
theorem k_X0_addPiece {r : Int32} {M' : nb_M} (had : nb_AD ad b0) (M N : nb_M) (p0 : Int32) (p1 : Int32) (h : f_X0_addPiece M p0 p1 = some (r, M')) : nb_C l D ad ca b0 yX0_addPiece wsX0_addPiece 1 [.ref (ad 1), .int p0, .int p1] M N (some (.int r)) M' N := by
  refine nb_of (cc := cX0_addPiece) (maxL := 4) (ret := (some .int)) (own := RX0) (by decide +kernel) rfl rfl (Nat.le_of_ble_eq_true rfl) ?_
  intro p e s m args below meth c ls X hP hS hl
  have hl : lv_has ls 4 [(0, .ref (ad 1)), (1, .int p0), (2, .int p1)] := hl
  obtain ⟨hx, hb, hml, hown, hts, hr, hlk, hK, hZ⟩ := id X
  have w_1 := hts (.fieldLink RX0 56 "NineBreakages$House" "pieces" "I") (by decide +kernel)
  have in0 : ∀ w ∈ u_ws RX0 TX0 16, w ∈ wsX0_addPiece := fun w q => List.mem_cons_of_mem _ (List.mem_append_right _ q)
  have w_3 := hts (.fieldLink RX0 31 "NineBreakages$House" "owner" "[I") (by decide +kernel)
  have w_4 := hts (.fieldLink RX0 34 "NineBreakages$House" "state" "[I") (by decide +kernel)
  unfold f_X0_addPiece at h
  refine lv_aload_n hx hb dX0_addPiece_0 rfl (lv_at hl 0 rfl) ?_
  refine va_get (v := .int (M.1 1 6)) (C := RX0) (T := TX0) (N := 16) hx hb hts in0 hown hK.1 hP 1 nb_a1 rfl 6 (by decide) w_1 (fun _ h9 => h9) rfl dX0_addPiece_1 ?_
  refine lv_istore_n (lv' := [(3, .int (M.1 1 6)), (0, .ref (ad 1)), (1, .int p0), (2, .int p1)]) hx hb dX0_addPiece_4 rfl hl (by decide) rfl (fun ls hl => ?_)
  refine lv_aload_n hx hb dX0_addPiece_5 rfl (lv_at hl 1 rfl) ?_
  refine lv_iload_n hx hb dX0_addPiece_6 rfl (lv_at hl 0 rfl) ?_
  refine lv_iload_n hx hb dX0_addPiece_7 rfl (lv_at hl 2 rfl) ?_
  obtain ⟨M_1, e_1, h⟩ := nb_oE h
  refine nb_callV (n := 2) (As := [.int (M.1 1 6), .int p0]) (rest := []) hx hb hml hown hts hK hZ hP hS (k_X0_shape had M N (M.1 1 6) p0 e_1) gX0_addPiece_X0_shape rfl (by decide +kernel) (nb_rm (Nat.le_of_ble_eq_true rfl) (Nat.le_of_ble_eq_true rfl)) nb_a1 rfl rfl rfl hl.1 rfl (Nat.le_of_ble_eq_true rfl) dX0_addPiece_8 (fun H locs hP hS => ?_)
  refine W.eq (g2 := F0 m 11 ls []) rfl ?_
  refine lv_aload_n hx hb dX0_addPiece_11 rfl (lv_at hl 1 rfl) ?_
  refine va_get (v := .ref (ad 7)) (C := RX0) (T := TX0) (N := 16) hx hb hts in0 hown hK.1 hP 1 nb_a1 rfl 9 (by decide) w_3 (fun _ h9 => h9) rfl dX0_addPiece_12 ?_
  refine lv_iload_n hx hb dX0_addPiece_15 rfl (lv_at hl 0 rfl) ?_
  refine lv_iload_n hx hb dX0_addPiece_16 rfl (lv_at hl 3 rfl) ?_
  obtain ⟨c_2, h⟩ := nb_c h
  refine nb_iast hx hb had hK hP hS nb_a7 c_2 (nb_t7 _ _) dX0_addPiece_17 (fun H locs hP hS => ?_)
  obtain ⟨M_3, e_3, h⟩ := nb_nE h
  rw [e_3] at hP
  refine lv_aload_n hx hb dX0_addPiece_18 rfl (lv_at hl 1 rfl) ?_
  refine va_get (v := .ref (ad 8)) (C := RX0) (T := TX0) (N := 16) hx hb hts in0 hown hK.1 hP 1 nb_a1 rfl 10 (by decide) w_4 (fun _ h9 => h9) rfl dX0_addPiece_19 ?_
  refine lv_iload_n hx hb dX0_addPiece_22 rfl (lv_at hl 0 rfl) ?_
  refine lv_iconst (v := (0 : Int32)) hx hb dX0_addPiece_23 (by decide) ?_
  refine nb_iast hx hb had hK hP hS nb_a8 c_2 (nb_t8 _ _) dX0_addPiece_24 (fun H locs hP hS => ?_)
  obtain ⟨M_4, e_4, h⟩ := nb_nE h
  rw [e_4] at hP
  refine lv_aload_n hx hb dX0_addPiece_25 rfl (lv_at hl 1 rfl) ?_
  refine lv_dup hx hb dX0_addPiece_26 rfl ?_
  refine va_get (v := .int (M_4.1 1 6)) (C := RX0) (T := TX0) (N := 16) hx hb hts in0 hown hK.1 hP 1 nb_a1 rfl 6 (by decide) w_1 (fun _ h9 => h9) rfl dX0_addPiece_27 ?_
  refine lv_iconst (v := (1 : Int32)) hx hb dX0_addPiece_30 (by decide) ?_
  refine lv_iadd hx hb dX0_addPiece_31 ?_
  refine nb_put (C := RX0) (T := TX0) (NN := 16) hx hb had hts in0 tyX0 tyX0_ok nmX0 hown hK hP hS nb_a1 rfl 6 (by decide) w_1 rfl (ty := .int) (by decide +kernel) rfl rfl (Nat.le_of_ble_eq_true rfl) (nb_p1_6 _) dX0_addPiece_32 (fun H locs hP hS => ?_)
  obtain ⟨M_5, e_5, h⟩ := nb_nE h
  rw [e_5] at hP
  refine lv_iload_n hx hb dX0_addPiece_35 rfl (lv_at hl 0 rfl) ?_
  obtain ⟨rfl, rfl⟩ := nb_e2 h
  exact nb_iret hx hb hr hlk hP hS dX0_addPiece_36
set_option maxHeartbeats 4000000 in
set_option maxRecDepth 100000 in
theorem k_X6_piece {r : Int32} {M' : nb_M} (had : nb_AD ad b0) (M N : nb_M) (p0 : Int32) (p1 : Int32) (h : f_X6_piece M p0 p1 = some (r, M')) : nb_C l D ad ca b0 yX6_piece wsX6_piece 2 [.ref (ad 0), .int p0, .int p1] M N (some (.int r)) M' N := by
  refine nb_of (cc := cX6_piece) (maxL := 3) (ret := (some .int)) (own := RX6) (by decide +kernel) rfl rfl (Nat.le_of_ble_eq_true rfl) ?_
  intro p e s m args below meth c ls X hP hS hl
  have hl : lv_has ls 3 [(0, .ref (ad 0)), (1, .int p0), (2, .int p1)] := hl
  obtain ⟨hx, hb, hml, hown, hts, hr, hlk, hK, hZ⟩ := id X
  have w_1 := hts (.fieldLink RX6 12 "NineBreakages" "now" "LNineBreakages$House;") (by decide +kernel)
  have in6 : ∀ w ∈ u_ws RX6 TX6 8, w ∈ wsX6_piece := fun w q => List.mem_cons_of_mem _ (List.mem_append_left _ (List.mem_append_right _ q))
  have w_3 := hts (.fieldLink RX6 90 "NineBreakages$House" "pieces" "I") (by decide +kernel)
  have in0 : ∀ w ∈ u_ws RX0 TX0 16, w ∈ wsX6_piece := fun w q => List.mem_cons_of_mem _ (List.mem_append_right _ q)
  unfold f_X6_piece at h
  refine lv_iload_n hx hb dX6_piece_0 rfl (lv_at hl 1 rfl) ?_
  refine lv_bipush (v := (69 : Int32)) hx hb dX6_piece_1 (by decide) ?_
  refine nb_callS (n := 2) (As := [.int p0, .int (69 : Int32)]) (rest := []) hx hb hml hown hts hK hZ hP hS (k_X6_within had M N p0 (69 : Int32)) gX6_piece_X6_within rfl (by decide +kernel) (nb_rm (Nat.le_of_ble_eq_true rfl) (Nat.le_of_ble_eq_true rfl)) rfl hl.1 rfl (Nat.le_of_ble_eq_true rfl) dX6_piece_3 (fun H locs hP hS => ?_)
  refine W.eq (g2 := F0 m 6 ls [.int (f_X6_within p0 (69 : Int32))]) rfl ?_
  refine lv_if_eq (tgt := 20) hx hb dX6_piece_6 (by decide) (fun c_2 => ?_) (fun c_2 => ?_)
  · have h := nb_t c_2 h
    refine lv_aload_n hx hb dX6_piece_20 rfl (lv_at hl 0 rfl) ?_
    refine lv_iconst (v := (1 : Int32)) hx hb dX6_piece_21 (by decide) ?_
    obtain ⟨r_3, M_3, e_3, h⟩ := nb_pE h
    refine nb_callV (n := 1) (As := [.int (1 : Int32)]) (rest := []) hx hb hml hown hts hK hZ hP hS (k_X6_fail had M N (1 : Int32) e_3) gX6_piece_X6_fail rfl (by decide +kernel) (nb_rm (Nat.le_of_ble_eq_true rfl) (Nat.le_of_ble_eq_true rfl)) nb_a0 rfl rfl rfl hl.1 rfl (Nat.le_of_ble_eq_true rfl) dX6_piece_22 (fun H locs hP hS => ?_)
    refine W.eq (g2 := F0 m 25 ls [.int r_3]) rfl ?_
    obtain ⟨rfl, rfl⟩ := nb_e2 h
    exact nb_iret hx hb hr hlk hP hS dX6_piece_25
  · have h := nb_f c_2 h
    refine lv_aload_n hx hb dX6_piece_9 rfl (lv_at hl 0 rfl) ?_
    refine va_get (v := .ref (ad 1)) (C := RX6) (T := TX6) (N := 8) hx hb hts in6 hown hK.1 hP 0 nb_a0 rfl 0 (by decide) w_1 (fun _ h9 => h9) rfl dX6_piece_10 ?_
    refine lv_iload_n hx hb dX6_piece_13 rfl (lv_at hl 2 rfl) ?_
    refine nb_callV (n := 1) (As := [.int p1]) (rest := []) hx hb hml hown hts hK hZ hP hS (k_X0_isPerson had M N p1) gX6_piece_X0_isPerson rfl (by decide +kernel) (nb_rm (Nat.le_of_ble_eq_true rfl) (Nat.le_of_ble_eq_true rfl)) nb_a1 rfl rfl rfl hl.1 rfl (Nat.le_of_ble_eq_true rfl) dX6_piece_14 (fun H locs hP hS => ?_)
    refine W.eq (g2 := F0 m 17 ls [.int (f_X0_isPerson M p1)]) rfl ?_
    refine lv_if_ne (tgt := 26) hx hb dX6_piece_17 (by decide) (fun c_5 => ?_) (fun c_5 => ?_)
    · have h := nb_f c_5 h
      refine lv_aload_n hx hb dX6_piece_26 rfl (lv_at hl 0 rfl) ?_
      refine va_get (v := .ref (ad 1)) (C := RX6) (T := TX6) (N := 8) hx hb hts in6 hown hK.1 hP 0 nb_a0 rfl 0 (by decide) w_1 (fun _ h9 => h9) rfl dX6_piece_27 ?_
      refine va_get (v := .int (M.1 1 6)) (C := RX0) (T := TX0) (N := 16) hx hb hts in0 hown hK.1 hP 1 nb_a1 rfl 6 (by decide) w_3 (fun _ h9 => h9) rfl dX6_piece_30 ?_
      refine lv_bipush (v := (9 : Int32)) hx hb dX6_piece_33 (by decide) ?_
      refine lv_icmp_lt (tgt := 44) hx hb dX6_piece_35 (by decide) (fun c_6 => ?_) (fun c_6 => ?_)
      · have h := nb_t c_6 h
        refine lv_aload_n hx hb dX6_piece_44 rfl (lv_at hl 0 rfl) ?_
        refine va_get (v := .ref (ad 1)) (C := RX6) (T := TX6) (N := 8) hx hb hts in6 hown hK.1 hP 0 nb_a0 rfl 0 (by decide) w_1 (fun _ h9 => h9) rfl dX6_piece_45 ?_
        refine lv_iload_n hx hb dX6_piece_48 rfl (lv_at hl 1 rfl) ?_
        refine lv_iload_n hx hb dX6_piece_49 rfl (lv_at hl 2 rfl) ?_
        obtain ⟨r_7, M_7, e_7, h⟩ := nb_pE h
        refine nb_callV (n := 2) (As := [.int p0, .int p1]) (rest := []) hx hb hml hown hts hK hZ hP hS (k_X0_addPiece had M N p0 p1 e_7) gX6_piece_X0_addPiece rfl (by decide +kernel) (nb_rm (Nat.le_of_ble_eq_true rfl) (Nat.le_of_ble_eq_true rfl)) nb_a1 rfl rfl rfl hl.1 rfl (Nat.le_of_ble_eq_true rfl) dX6_piece_50 (fun H locs hP hS => ?_)
        refine W.eq (g2 := F0 m 53 ls [.int r_7]) rfl ?_
        obtain ⟨rfl, rfl⟩ := nb_e2 h
        exact nb_iret hx hb hr hlk hP hS dX6_piece_53
      · have h := nb_f c_6 h
        refine lv_aload_n hx hb dX6_piece_38 rfl (lv_at hl 0 rfl) ?_
        refine lv_iconst (v := (4 : Int32)) hx hb dX6_piece_39 (by decide) ?_
        obtain ⟨r_8, M_8, e_8, h⟩ := nb_pE h
        refine nb_callV (n := 1) (As := [.int (4 : Int32)]) (rest := []) hx hb hml hown hts hK hZ hP hS (k_X6_fail had M N (4 : Int32) e_8) gX6_piece_X6_fail rfl (by decide +kernel) (nb_rm (Nat.le_of_ble_eq_true rfl) (Nat.le_of_ble_eq_true rfl)) nb_a0 rfl rfl rfl hl.1 rfl (Nat.le_of_ble_eq_true rfl) dX6_piece_40 (fun H locs hP hS => ?_)
        refine W.eq (g2 := F0 m 43 ls [.int r_8]) rfl ?_
        obtain ⟨rfl, rfl⟩ := nb_e2 h
        exact nb_iret hx hb hr hlk hP hS dX6_piece_43
    · have h := nb_t c_5 h
      refine lv_aload_n hx hb dX6_piece_20 rfl (lv_at hl 0 rfl) ?_
      refine lv_iconst (v := (1 : Int32)) hx hb dX6_piece_21 (by decide) ?_
      obtain ⟨r_9, M_9, e_9, h⟩ := nb_pE h
      refine nb_callV (n := 1) (As := [.int (1 : Int32)]) (rest := []) hx hb hml hown hts hK hZ hP hS (k_X6_fail had M N (1 : Int32) e_9) gX6_piece_X6_fail rfl (by decide +kernel) (nb_rm (Nat.le_of_ble_eq_true rfl) (Nat.le_of_ble_eq_true rfl)) nb_a0 rfl rfl rfl hl.1 rfl (Nat.le_of_ble_eq_true rfl) dX6_piece_22 (fun H locs hP hS => ?_)
      refine W.eq (g2 := F0 m 25 ls [.int r_9]) rfl ?_
      obtain ⟨rfl, rfl⟩ := nb_e2 h
      exact nb_iret hx hb hr hlk hP hS dX6_piece_25
set_option maxHeartbeats 4000000 in
set_option maxRecDepth 100000 in
theorem k_X0_isPiece (had : nb_AD ad b0) (M N : nb_M) (p0 : Int32) : nb_C l D ad ca b0 yX0_isPiece wsX0_isPiece 0 [.ref (ad 1), .int p0] M N (some (.int (f_X0_isPiece M p0))) M N := by
  obtain ⟨r, h⟩ : ∃ r, f_X0_isPiece M p0 = r := ⟨_, rfl⟩
  rw [h]
  refine nb_of (cc := cX0_isPiece) (maxL := 2) (ret := (some .boolean)) (own := RX0) (by decide +kernel) rfl rfl (Nat.le_of_ble_eq_true rfl) ?_
  intro p e s m args below meth c ls X hP hS hl
  have hl : lv_has ls 2 [(0, .ref (ad 1)), (1, .int p0)] := hl
  obtain ⟨hx, hb, hml, hown, hts, hr, hlk, hK, hZ⟩ := id X
  have w_1 := hts (.fieldLink RX0 56 "NineBreakages$House" "pieces" "I") (by decide +kernel)
  have in0 : ∀ w ∈ u_ws RX0 TX0 16, w ∈ wsX0_isPiece := fun w q => List.mem_cons_of_mem _ (List.mem_append_right _ q)
  unfold f_X0_isPiece at h
  refine lv_iload_n hx hb dX0_isPiece_0 rfl (lv_at hl 1 rfl) ?_
  refine lv_if_lt (tgt := 16) hx hb dX0_isPiece_1 (by decide) (fun c_1 => ?_) (fun c_1 => ?_)
  · have h := nb_t c_1 h
    refine lv_iconst (v := (0 : Int32)) hx hb dX0_isPiece_16 (by decide) ?_
    obtain rfl := nb_e3 h
    exact nb_zret (by decide) hx hb hr hlk hP hS dX0_isPiece_17
  · have h := nb_f c_1 h
    refine lv_iload_n hx hb dX0_isPiece_4 rfl (lv_at hl 1 rfl) ?_
    refine lv_aload_n hx hb dX0_isPiece_5 rfl (lv_at hl 0 rfl) ?_
    refine va_get (v := .int (M.1 1 6)) (C := RX0) (T := TX0) (N := 16) hx hb hts in0 hown hK.1 hP 1 nb_a1 rfl 6 (by decide) w_1 (fun _ h9 => h9) rfl dX0_isPiece_6 ?_
    refine lv_icmp_ge (tgt := 16) hx hb dX0_isPiece_9 (by decide) (fun c_2 => ?_) (fun c_2 => ?_)
    · have h := nb_t c_2 h
      refine lv_iconst (v := (0 : Int32)) hx hb dX0_isPiece_16 (by decide) ?_
      obtain rfl := nb_e3 h
      exact nb_zret (by decide) hx hb hr hlk hP hS dX0_isPiece_17
    · have h := nb_f c_2 h
      refine lv_iconst (v := (1 : Int32)) hx hb dX0_isPiece_12 (by decide) ?_
      refine lv_goto (tgt := 17) hx hb dX0_isPiece_13 (by decide) ?_
      obtain rfl := nb_e3 h
      exact nb_zret (by decide) hx hb hr hlk hP hS dX0_isPiece_17
set_option maxHeartbeats 4000000 in
set_option maxRecDepth 100000 in
theorem w_X0_countsOn_16 {N : nb_M} {r : Int32} (had : nb_AD ad b0) (X : nb_X p s m args meth c cX0_countsOn 4 RX0 (some .boolean) wsX0_countsOn D ca b0) : ∀ (M : nb_M) (x1 : Int32) (x2 : Int32), f_X0_countsOn_16 M x1 x2 = some r → ∀ (H : Heap) (locs : List Loc), va_P D vwCl (nb_w ad ca M N) H → va_S (fun q => b0 ≤ q) s.heap H locs → ∀ ls : Array Slot, lv_has ls 4 [(0, .ref (ad 1)), (1, .int x1), (2, .int x2)] → W p l e (nb_R 2) s m args below meth c H locs 0 0 (nb_Q below args s D ad ca b0 (some (.int r)) M N) (F0 m 16 ls []) := by
  obtain ⟨hx, hb, hml, hown, hts, hr, hlk, hK, hZ⟩ := id X
  have w_1 := hts (.fieldLink RX0 25 "NineBreakages$House" "kind" "[I") (by decide +kernel)
  have in0 : ∀ w ∈ u_ws RX0 TX0 16, w ∈ wsX0_countsOn := fun w q => List.mem_cons_of_mem _ (List.mem_append_right _ q)
  have w_3 := hts (.fieldLink RX0 28 "NineBreakages$House" "number" "[I") (by decide +kernel)
  intro M x1 x2 h H locs hP hS ls hl
  unfold f_X0_countsOn_16 at h
  refine lv_iconst (v := (1 : Int32)) hx hb dX0_countsOn_16 (by decide) ?_
  refine lv_goto (tgt := 21) hx hb dX0_countsOn_17 (by decide) ?_
  refine lv_istore_n (lv' := [(3, .int (1 : Int32)), (0, .ref (ad 1)), (1, .int x1), (2, .int x2)]) hx hb dX0_countsOn_21 rfl hl (by decide) rfl (fun ls hl => ?_)
  refine lv_aload_n hx hb dX0_countsOn_22 rfl (lv_at hl 1 rfl) ?_
  refine va_get (v := .ref (ad 5)) (C := RX0) (T := TX0) (N := 16) hx hb hts in0 hown hK.1 hP 1 nb_a1 rfl 7 (by decide) w_1 (fun _ h9 => h9) rfl dX0_countsOn_23 ?_
  refine lv_iload_n hx hb dX0_countsOn_26 rfl (lv_at hl 2 rfl) ?_
  obtain ⟨c_2, h⟩ := nb_c h
  refine va_iald hx hb hK.1 hP 5 0 nb_a5 rfl c_2 dX0_countsOn_27 ?_
  refine nb_tsw [(2, 64), (3, 66), (4, 83), (5, 96), (6, 112)] 114 hx hb dX0_countsOn_28 (by decide +kernel) ?_
  refine nb_split (fun c_3 => ?_) (fun c_3 => ?_)
  · have h := nb_t c_3 h
    refine lv_iload_n hx hb dX0_countsOn_64 rfl (lv_at hl 0 rfl) ?_
    obtain rfl := nb_e1 h
    exact nb_zret (by decide) hx hb hr hlk hP hS dX0_countsOn_65
  · have h := nb_f c_3 h
    refine nb_split (fun c_4 => ?_) (fun c_4 => ?_)
    · have h := nb_t c_4 h
      refine lv_aload_n hx hb dX0_countsOn_66 rfl (lv_at hl 1 rfl) ?_
      refine va_get (v := .ref (ad 6)) (C := RX0) (T := TX0) (N := 16) hx hb hts in0 hown hK.1 hP 1 nb_a1 rfl 8 (by decide) w_3 (fun _ h9 => h9) rfl dX0_countsOn_67 ?_
      refine lv_iload_n hx hb dX0_countsOn_70 rfl (lv_at hl 2 rfl) ?_
      refine va_iald hx hb hK.1 hP 6 0 nb_a6 rfl c_2 dX0_countsOn_71 ?_
      refine lv_bipush (v := (8 : Int32)) hx hb dX0_countsOn_72 (by decide) ?_
      refine lv_icmp_ge (tgt := 81) hx hb dX0_countsOn_74 (by decide) (fun c_5 => ?_) (fun c_5 => ?_)
      · have h := nb_t c_5 h
        refine lv_iconst (v := (0 : Int32)) hx hb dX0_countsOn_81 (by decide) ?_
        obtain rfl := nb_e1 h
        exact nb_zret (by decide) hx hb hr hlk hP hS dX0_countsOn_82
      · have h := nb_f c_5 h
        refine lv_iconst (v := (1 : Int32)) hx hb dX0_countsOn_77 (by decide) ?_
        refine lv_goto (tgt := 82) hx hb dX0_countsOn_78 (by decide) ?_
        obtain rfl := nb_e1 h
        exact nb_zret (by decide) hx hb hr hlk hP hS dX0_countsOn_82
    · have h := nb_f c_4 h
      refine nb_split (fun c_6 => ?_) (fun c_6 => ?_)
      · have h := nb_t c_6 h
        refine lv_aload_n hx hb dX0_countsOn_83 rfl (lv_at hl 1 rfl) ?_
        obtain ⟨r_7, e_7, h⟩ := nb_oE h
        refine nb_callV (n := 0) (As := []) (rest := []) hx hb hml hown hts hK hZ hP hS (k_X0_shards had M N e_7) gX0_countsOn_X0_shards rfl (by decide +kernel) (nb_rm (Nat.le_of_ble_eq_true rfl) (Nat.le_of_ble_eq_true rfl)) nb_a1 rfl rfl rfl hl.1 rfl (Nat.le_of_ble_eq_true rfl) dX0_countsOn_84 (fun H locs hP hS => ?_)
        refine W.eq (g2 := F0 m 87 ls [.int r_7]) rfl ?_
        refine lv_if_le (tgt := 94) hx hb dX0_countsOn_87 (by decide) (fun c_8 => ?_) (fun c_8 => ?_)
        · have h := nb_t c_8 h
          refine lv_iconst (v := (0 : Int32)) hx hb dX0_countsOn_94 (by decide) ?_
          obtain rfl := nb_e1 h
          exact nb_zret (by decide) hx hb hr hlk hP hS dX0_countsOn_95
        · have h := nb_f c_8 h
          refine lv_iconst (v := (1 : Int32)) hx hb dX0_countsOn_90 (by decide) ?_
          refine lv_goto (tgt := 95) hx hb dX0_countsOn_91 (by decide) ?_
          obtain rfl := nb_e1 h
          exact nb_zret (by decide) hx hb hr hlk hP hS dX0_countsOn_95
      · have h := nb_f c_6 h
        refine nb_split (fun c_9 => ?_) (fun c_9 => ?_)
        · have h := nb_t c_9 h
          refine lv_iload_n hx hb dX0_countsOn_96 rfl (lv_at hl 0 rfl) ?_
          refine lv_if_ne (tgt := 106) hx hb dX0_countsOn_97 (by decide) (fun _ => ?_) (fun c_10 => absurd c_10 (by decide))
          refine lv_iconst (v := (1 : Int32)) hx hb dX0_countsOn_106 (by decide) ?_
          refine lv_goto (tgt := 111) hx hb dX0_countsOn_107 (by decide) ?_
          obtain rfl := nb_e1 h
          exact nb_zret (by decide) hx hb hr hlk hP hS dX0_countsOn_111
        · have h := nb_f c_9 h
          refine nb_split (fun c_11 => ?_) (fun c_11 => ?_)
          · have h := nb_t c_11 h
            refine lv_iconst (v := (0 : Int32)) hx hb dX0_countsOn_112 (by decide) ?_
            obtain rfl := nb_e1 h
            exact nb_zret (by decide) hx hb hr hlk hP hS dX0_countsOn_113
          · have h := nb_f c_11 h
            refine W.eq (g2 := F0 m 114 ls []) rfl ?_
            refine lv_iconst (v := (1 : Int32)) hx hb dX0_countsOn_114 (by decide) ?_
            obtain rfl := nb_e1 h
            exact nb_zret (by decide) hx hb hr hlk hP hS dX0_countsOn_115
set_option maxHeartbeats 4000000 in
set_option maxRecDepth 100000 in
theorem k_X0_countsOn {r : Int32} (had : nb_AD ad b0) (M N : nb_M) (p0 : Int32) (p1 : Int32) (h : f_X0_countsOn M p0 p1 = some r) : nb_C l D ad ca b0 yX0_countsOn wsX0_countsOn 2 [.ref (ad 1), .int p0, .int p1] M N (some (.int r)) M N := by
  refine nb_of (cc := cX0_countsOn) (maxL := 4) (ret := (some .boolean)) (own := RX0) (by decide +kernel) rfl rfl (Nat.le_of_ble_eq_true rfl) ?_
  intro p e s m args below meth c ls X hP hS hl
  have hl : lv_has ls 4 [(0, .ref (ad 1)), (1, .int p0), (2, .int p1)] := hl
  obtain ⟨hx, hb, hml, hown, hts, hr, hlk, hK, hZ⟩ := id X
  have w_1 := hts (.fieldLink RX0 28 "NineBreakages$House" "number" "[I") (by decide +kernel)
  have in0 : ∀ w ∈ u_ws RX0 TX0 16, w ∈ wsX0_countsOn := fun w q => List.mem_cons_of_mem _ (List.mem_append_right _ q)
  have w_3 := hts (.fieldLink RX0 25 "NineBreakages$House" "kind" "[I") (by decide +kernel)
  unfold f_X0_countsOn at h
  refine lv_iload_n hx hb dX0_countsOn_0 rfl (lv_at hl 2 rfl) ?_
  refine lv_iconst (v := (2 : Int32)) hx hb dX0_countsOn_1 (by decide) ?_
  refine lv_irem hx hb dX0_countsOn_2 (by decide) ?_
  refine lv_if_eq (tgt := 16) hx hb dX0_countsOn_3 (by decide) (fun c_1 => ?_) (fun c_1 => ?_)
  · have h := nb_t c_1 h
    exact w_X0_countsOn_16 had X _ _ _ h _ _ hP hS _ (lv_sub hl [0, 1, 2] rfl)
  · have h := nb_f c_1 h
    refine lv_aload_n hx hb dX0_countsOn_6 rfl (lv_at hl 0 rfl) ?_
    refine va_get (v := .ref (ad 6)) (C := RX0) (T := TX0) (N := 16) hx hb hts in0 hown hK.1 hP 1 nb_a1 rfl 8 (by decide) w_1 (fun _ h9 => h9) rfl dX0_countsOn_7 ?_
    refine lv_iload_n hx hb dX0_countsOn_10 rfl (lv_at hl 1 rfl) ?_
    obtain ⟨c_12, h⟩ := nb_c h
    refine va_iald hx hb hK.1 hP 6 0 nb_a6 rfl c_12 dX0_countsOn_11 ?_
    refine lv_iconst (v := (4 : Int32)) hx hb dX0_countsOn_12 (by decide) ?_
    refine lv_icmp_le (tgt := 20) hx hb dX0_countsOn_13 (by decide) (fun c_13 => ?_) (fun c_13 => ?_)
    · have h := nb_t c_13 h
      refine lv_iconst (v := (0 : Int32)) hx hb dX0_countsOn_20 (by decide) ?_
      refine lv_istore_n (lv' := [(3, .int (0 : Int32)), (0, .ref (ad 1)), (1, .int p0), (2, .int p1)]) hx hb dX0_countsOn_21 rfl hl (by decide) rfl (fun ls hl => ?_)
      refine lv_aload_n hx hb dX0_countsOn_22 rfl (lv_at hl 1 rfl) ?_
      refine va_get (v := .ref (ad 5)) (C := RX0) (T := TX0) (N := 16) hx hb hts in0 hown hK.1 hP 1 nb_a1 rfl 7 (by decide) w_3 (fun _ h9 => h9) rfl dX0_countsOn_23 ?_
      refine lv_iload_n hx hb dX0_countsOn_26 rfl (lv_at hl 2 rfl) ?_
      refine va_iald hx hb hK.1 hP 5 0 nb_a5 rfl c_12 dX0_countsOn_27 ?_
      refine nb_tsw [(2, 64), (3, 66), (4, 83), (5, 96), (6, 112)] 114 hx hb dX0_countsOn_28 (by decide +kernel) ?_
      refine nb_split (fun c_14 => ?_) (fun c_14 => ?_)
      · have h := nb_t c_14 h
        refine lv_iload_n hx hb dX0_countsOn_64 rfl (lv_at hl 0 rfl) ?_
        obtain rfl := nb_e1 h
        exact nb_zret (by decide) hx hb hr hlk hP hS dX0_countsOn_65
      · have h := nb_f c_14 h
        refine nb_split (fun c_15 => ?_) (fun c_15 => ?_)
        · have h := nb_t c_15 h
          refine lv_aload_n hx hb dX0_countsOn_66 rfl (lv_at hl 1 rfl) ?_
          refine va_get (v := .ref (ad 6)) (C := RX0) (T := TX0) (N := 16) hx hb hts in0 hown hK.1 hP 1 nb_a1 rfl 8 (by decide) w_1 (fun _ h9 => h9) rfl dX0_countsOn_67 ?_
          refine lv_iload_n hx hb dX0_countsOn_70 rfl (lv_at hl 2 rfl) ?_
          refine va_iald hx hb hK.1 hP 6 0 nb_a6 rfl c_12 dX0_countsOn_71 ?_
          refine lv_bipush (v := (8 : Int32)) hx hb dX0_countsOn_72 (by decide) ?_
          refine lv_icmp_ge (tgt := 81) hx hb dX0_countsOn_74 (by decide) (fun c_16 => ?_) (fun c_16 => ?_)
          · have h := nb_t c_16 h
            refine lv_iconst (v := (0 : Int32)) hx hb dX0_countsOn_81 (by decide) ?_
            obtain rfl := nb_e1 h
            exact nb_zret (by decide) hx hb hr hlk hP hS dX0_countsOn_82
          · have h := nb_f c_16 h
            refine lv_iconst (v := (1 : Int32)) hx hb dX0_countsOn_77 (by decide) ?_
            refine lv_goto (tgt := 82) hx hb dX0_countsOn_78 (by decide) ?_
            obtain rfl := nb_e1 h
            exact nb_zret (by decide) hx hb hr hlk hP hS dX0_countsOn_82
        · have h := nb_f c_15 h
          refine nb_split (fun c_17 => ?_) (fun c_17 => ?_)
          · have h := nb_t c_17 h
            refine lv_aload_n hx hb dX0_countsOn_83 rfl (lv_at hl 1 rfl) ?_
            obtain ⟨r_18, e_18, h⟩ := nb_oE h
            refine nb_callV (n := 0) (As := []) (rest := []) hx hb hml hown hts hK hZ hP hS (k_X0_shards had M N e_18) gX0_countsOn_X0_shards rfl (by decide +kernel) (nb_rm (Nat.le_of_ble_eq_true rfl) (Nat.le_of_ble_eq_true rfl)) nb_a1 rfl rfl rfl hl.1 rfl (Nat.le_of_ble_eq_true rfl) dX0_countsOn_84 (fun H locs hP hS => ?_)
            refine W.eq (g2 := F0 m 87 ls [.int r_18]) rfl ?_
            refine lv_if_le (tgt := 94) hx hb dX0_countsOn_87 (by decide) (fun c_19 => ?_) (fun c_19 => ?_)
            · have h := nb_t c_19 h
              refine lv_iconst (v := (0 : Int32)) hx hb dX0_countsOn_94 (by decide) ?_
              obtain rfl := nb_e1 h
              exact nb_zret (by decide) hx hb hr hlk hP hS dX0_countsOn_95
            · have h := nb_f c_19 h
              refine lv_iconst (v := (1 : Int32)) hx hb dX0_countsOn_90 (by decide) ?_
              refine lv_goto (tgt := 95) hx hb dX0_countsOn_91 (by decide) ?_
              obtain rfl := nb_e1 h
              exact nb_zret (by decide) hx hb hr hlk hP hS dX0_countsOn_95
          · have h := nb_f c_17 h
            refine nb_split (fun c_20 => ?_) (fun c_20 => ?_)
            · have h := nb_t c_20 h
              refine lv_iload_n hx hb dX0_countsOn_96 rfl (lv_at hl 0 rfl) ?_
              refine lv_if_ne (tgt := 106) hx hb dX0_countsOn_97 (by decide) (fun c_21 => absurd (by decide) c_21) (fun _ => ?_)
              refine lv_iload_n hx hb dX0_countsOn_100 rfl (lv_at hl 3 rfl) ?_
              refine lv_bipush (v := (100 : Int32)) hx hb dX0_countsOn_101 (by decide) ?_
              refine lv_icmp_le (tgt := 110) hx hb dX0_countsOn_103 (by decide) (fun c_22 => ?_) (fun c_22 => ?_)
              · have h := nb_t c_22 h
                refine lv_iconst (v := (0 : Int32)) hx hb dX0_countsOn_110 (by decide) ?_
                obtain rfl := nb_e1 h
                exact nb_zret (by decide) hx hb hr hlk hP hS dX0_countsOn_111
              · have h := nb_f c_22 h
                refine lv_iconst (v := (1 : Int32)) hx hb dX0_countsOn_106 (by decide) ?_
                refine lv_goto (tgt := 111) hx hb dX0_countsOn_107 (by decide) ?_
                obtain rfl := nb_e1 h
                exact nb_zret (by decide) hx hb hr hlk hP hS dX0_countsOn_111
            · have h := nb_f c_20 h
              refine nb_split (fun c_23 => ?_) (fun c_23 => ?_)
              · have h := nb_t c_23 h
                refine lv_iconst (v := (0 : Int32)) hx hb dX0_countsOn_112 (by decide) ?_
                obtain rfl := nb_e1 h
                exact nb_zret (by decide) hx hb hr hlk hP hS dX0_countsOn_113
              · have h := nb_f c_23 h
                refine W.eq (g2 := F0 m 114 ls []) rfl ?_
                refine lv_iconst (v := (1 : Int32)) hx hb dX0_countsOn_114 (by decide) ?_
                obtain rfl := nb_e1 h
                exact nb_zret (by decide) hx hb hr hlk hP hS dX0_countsOn_115
    · have h := nb_f c_13 h
      exact w_X0_countsOn_16 had X _ _ _ h _ _ hP hS _ (lv_sub hl [0, 1, 2] rfl)
set_option maxHeartbeats 4000000 in
set_option maxRecDepth 100000 in
theorem k_X0_slipsBy {r : Int32} (had : nb_AD ad b0) (M N : nb_M) (p0 : Int32) (p1 : Int32) (h : f_X0_slipsBy M p0 p1 = some r) : nb_C l D ad ca b0 yX0_slipsBy wsX0_slipsBy 2 [.ref (ad 1), .int p0, .int p1] M N (some (.int r)) M N := by
  refine nb_of (cc := cX0_slipsBy) (maxL := 4) (ret := (some .int)) (own := RX0) (by decide +kernel) rfl rfl (Nat.le_of_ble_eq_true rfl) ?_
  intro p e s m args below meth c ls X hP hS hl
  have hl : lv_has ls 4 [(0, .ref (ad 1)), (1, .int p0), (2, .int p1)] := hl
  obtain ⟨hx, hb, hml, hown, hts, hr, hlk, hK, hZ⟩ := id X
  have w_1 := hts (.fieldLink RX0 28 "NineBreakages$House" "number" "[I") (by decide +kernel)
  have in0 : ∀ w ∈ u_ws RX0 TX0 16, w ∈ wsX0_slipsBy := fun w q => List.mem_cons_of_mem _ (List.mem_append_right _ q)
  have w_3 := hts (.fieldLink RX0 25 "NineBreakages$House" "kind" "[I") (by decide +kernel)
  have w_4 := hts (.fieldLink RX0 50 "NineBreakages$House" "day" "I") (by decide +kernel)
  unfold f_X0_slipsBy at h
  refine lv_bipush (v := (10 : Int32)) hx hb dX0_slipsBy_0 (by decide) ?_
  refine lv_iload_n hx hb dX0_slipsBy_2 rfl (lv_at hl 2 rfl) ?_
  refine lv_isub hx hb dX0_slipsBy_3 ?_
  refine lv_aload_n hx hb dX0_slipsBy_4 rfl (lv_at hl 0 rfl) ?_
  refine va_get (v := .ref (ad 6)) (C := RX0) (T := TX0) (N := 16) hx hb hts in0 hown hK.1 hP 1 nb_a1 rfl 8 (by decide) w_1 (fun _ h9 => h9) rfl dX0_slipsBy_5 ?_
  refine lv_iload_n hx hb dX0_slipsBy_8 rfl (lv_at hl 1 rfl) ?_
  obtain ⟨c_1, h⟩ := nb_c h
  refine va_iald hx hb hK.1 hP 6 0 nb_a6 rfl c_1 dX0_slipsBy_9 ?_
  refine lv_iadd hx hb dX0_slipsBy_10 ?_
  refine lv_topi (fun v_2 e_2 => ?_)
  have h := nb_nA e_2 h
  refine lv_istore_n (lv' := [(3, .int v_2), (0, .ref (ad 1)), (1, .int p0), (2, .int p1)]) hx hb dX0_slipsBy_11 rfl hl (by decide) rfl (fun ls hl => ?_)
  refine lv_aload_n hx hb dX0_slipsBy_12 rfl (lv_at hl 1 rfl) ?_
  refine va_get (v := .ref (ad 5)) (C := RX0) (T := TX0) (N := 16) hx hb hts in0 hown hK.1 hP 1 nb_a1 rfl 7 (by decide) w_3 (fun _ h9 => h9) rfl dX0_slipsBy_13 ?_
  refine lv_iload_n hx hb dX0_slipsBy_16 rfl (lv_at hl 2 rfl) ?_
  refine va_iald hx hb hK.1 hP 5 0 nb_a5 rfl c_1 dX0_slipsBy_17 ?_
  refine nb_tsw [(1, 56), (2, 60), (3, 64), (4, 73), (5, 84), (6, 93)] 105 hx hb dX0_slipsBy_18 (by decide +kernel) ?_
  refine nb_split (fun c_3 => ?_) (fun c_3 => ?_)
  · have h := nb_t c_3 h
    refine lv_iload_n hx hb dX0_slipsBy_56 rfl (lv_at hl 0 rfl) ?_
    refine lv_iconst (v := (3 : Int32)) hx hb dX0_slipsBy_57 (by decide) ?_
    refine lv_iadd hx hb dX0_slipsBy_58 ?_
    obtain rfl := nb_e1 h
    exact nb_iret hx hb hr hlk hP hS dX0_slipsBy_59
  · have h := nb_f c_3 h
    refine nb_split (fun c_4 => ?_) (fun c_4 => ?_)
    · have h := nb_t c_4 h
      refine lv_iload_n hx hb dX0_slipsBy_60 rfl (lv_at hl 0 rfl) ?_
      refine lv_iconst (v := (2 : Int32)) hx hb dX0_slipsBy_61 (by decide) ?_
      refine lv_idiv hx hb dX0_slipsBy_62 (by decide) ?_
      obtain rfl := nb_e1 h
      exact nb_iret hx hb hr hlk hP hS dX0_slipsBy_63
    · have h := nb_f c_4 h
      refine nb_split (fun c_5 => ?_) (fun c_5 => ?_)
      · have h := nb_t c_5 h
        refine lv_iload_n hx hb dX0_slipsBy_64 rfl (lv_at hl 0 rfl) ?_
        refine lv_aload_n hx hb dX0_slipsBy_65 rfl (lv_at hl 1 rfl) ?_
        refine va_get (v := .ref (ad 6)) (C := RX0) (T := TX0) (N := 16) hx hb hts in0 hown hK.1 hP 1 nb_a1 rfl 8 (by decide) w_1 (fun _ h9 => h9) rfl dX0_slipsBy_66 ?_
        refine lv_iload_n hx hb dX0_slipsBy_69 rfl (lv_at hl 2 rfl) ?_
        refine va_iald hx hb hK.1 hP 6 0 nb_a6 rfl c_1 dX0_slipsBy_70 ?_
        refine lv_isub hx hb dX0_slipsBy_71 ?_
        obtain rfl := nb_e1 h
        exact nb_iret hx hb hr hlk hP hS dX0_slipsBy_72
      · have h := nb_f c_5 h
        refine nb_split (fun c_6 => ?_) (fun c_6 => ?_)
        · have h := nb_t c_6 h
          refine lv_iload_n hx hb dX0_slipsBy_73 rfl (lv_at hl 0 rfl) ?_
          refine lv_iconst (v := (3 : Int32)) hx hb dX0_slipsBy_74 (by decide) ?_
          refine lv_iadd hx hb dX0_slipsBy_75 ?_
          refine lv_aload_n hx hb dX0_slipsBy_76 rfl (lv_at hl 1 rfl) ?_
          refine va_get (v := .int (M.1 1 0)) (C := RX0) (T := TX0) (N := 16) hx hb hts in0 hown hK.1 hP 1 nb_a1 rfl 0 (by decide) w_4 (fun _ h9 => h9) rfl dX0_slipsBy_77 ?_
          refine lv_iconst (v := (3 : Int32)) hx hb dX0_slipsBy_80 (by decide) ?_
          refine lv_irem hx hb dX0_slipsBy_81 (by decide) ?_
          refine lv_iadd hx hb dX0_slipsBy_82 ?_
          obtain rfl := nb_e1 h
          exact nb_iret hx hb hr hlk hP hS dX0_slipsBy_83
        · have h := nb_f c_6 h
          refine nb_split (fun c_7 => ?_) (fun c_7 => ?_)
          · have h := nb_t c_7 h
            refine lv_iload_n hx hb dX0_slipsBy_84 rfl (lv_at hl 0 rfl) ?_
            refine lv_iconst (v := (2 : Int32)) hx hb dX0_slipsBy_85 (by decide) ?_
            refine lv_idiv hx hb dX0_slipsBy_86 (by decide) ?_
            refine lv_aload_n hx hb dX0_slipsBy_87 rfl (lv_at hl 1 rfl) ?_
            obtain ⟨r_8, e_8, h⟩ := nb_oE h
            refine nb_callV (n := 0) (As := []) (rest := [.int (v_2 / (2 : Int32))]) hx hb hml hown hts hK hZ hP hS (k_X0_shards had M N e_8) gX0_slipsBy_X0_shards rfl (by decide +kernel) (nb_rm (Nat.le_of_ble_eq_true rfl) (Nat.le_of_ble_eq_true rfl)) nb_a1 rfl rfl rfl hl.1 rfl (Nat.le_of_ble_eq_true rfl) dX0_slipsBy_88 (fun H locs hP hS => ?_)
            refine W.eq (g2 := F0 m 91 ls [.int r_8, .int (v_2 / (2 : Int32))]) rfl ?_
            refine lv_iadd hx hb dX0_slipsBy_91 ?_
            obtain rfl := nb_e1 h
            exact nb_iret hx hb hr hlk hP hS dX0_slipsBy_92
          · have h := nb_f c_7 h
            refine nb_split (fun c_9 => ?_) (fun c_9 => ?_)
            · have h := nb_t c_9 h
              refine lv_iload_n hx hb dX0_slipsBy_93 rfl (lv_at hl 3 rfl) ?_
              refine lv_bipush (v := (6 : Int32)) hx hb dX0_slipsBy_94 (by decide) ?_
              refine lv_icmp_le (tgt := 103) hx hb dX0_slipsBy_96 (by decide) (fun c_10 => ?_) (fun c_10 => ?_)
              · have h := nb_t c_10 h
                refine lv_iload_n hx hb dX0_slipsBy_103 rfl (lv_at hl 0 rfl) ?_
                obtain rfl := nb_e1 h
                exact nb_iret hx hb hr hlk hP hS dX0_slipsBy_104
              · have h := nb_f c_10 h
                refine lv_iconst (v := (0 : Int32)) hx hb dX0_slipsBy_99 (by decide) ?_
                refine lv_goto (tgt := 104) hx hb dX0_slipsBy_100 (by decide) ?_
                obtain rfl := nb_e1 h
                exact nb_iret hx hb hr hlk hP hS dX0_slipsBy_104
            · have h := nb_f c_9 h
              refine W.eq (g2 := F0 m 105 ls []) rfl ?_
              refine lv_iload_n hx hb dX0_slipsBy_105 rfl (lv_at hl 0 rfl) ?_
              obtain rfl := nb_e1 h
              exact nb_iret hx hb hr hlk hP hS dX0_slipsBy_106
set_option maxHeartbeats 4000000 in
set_option maxRecDepth 100000 in
theorem k_X0_riskBy {r : Int32} {M' : nb_M} (had : nb_AD ad b0) (M N : nb_M) (p0 : Int32) (p1 : Int32) (h : f_X0_riskBy M p0 p1 = some (r, M')) : nb_C l D ad ca b0 yX0_riskBy wsX0_riskBy 3 [.ref (ad 1), .int p0, .int p1] M N (some (.int r)) M' N := by
  refine nb_of (cc := cX0_riskBy) (maxL := 3) (ret := (some .int)) (own := RX0) (by decide +kernel) rfl rfl (Nat.le_of_ble_eq_true rfl) ?_
  intro p e s m args below meth c ls X hP hS hl
  have hl : lv_has ls 3 [(0, .ref (ad 1)), (1, .int p0), (2, .int p1)] := hl
  obtain ⟨hx, hb, hml, hown, hts, hr, hlk, hK, hZ⟩ := id X
  have w_1 := hts (.fieldLink RX0 50 "NineBreakages$House" "day" "I") (by decide +kernel)
  have in0 : ∀ w ∈ u_ws RX0 TX0 16, w ∈ wsX0_riskBy := fun w q => List.mem_cons_of_mem _ (List.mem_append_left _ (List.mem_append_right _ q))
  unfold f_X0_riskBy at h
  refine lv_aload_n hx hb dX0_riskBy_0 rfl (lv_at hl 0 rfl) ?_
  refine lv_iconst (v := (0 : Int32)) hx hb dX0_riskBy_1 (by decide) ?_
  refine lv_aload_n hx hb dX0_riskBy_2 rfl (lv_at hl 0 rfl) ?_
  refine lv_iload_n hx hb dX0_riskBy_3 rfl (lv_at hl 1 rfl) ?_
  refine lv_iload_n hx hb dX0_riskBy_4 rfl (lv_at hl 2 rfl) ?_
  obtain ⟨r_1, e_1, h⟩ := nb_oE h
  refine nb_callV (n := 2) (As := [.int p0, .int p1]) (rest := [.int (0 : Int32), .ref (ad 1)]) hx hb hml hown hts hK hZ hP hS (k_X0_slipsBy had M N p0 p1 e_1) gX0_riskBy_X0_slipsBy rfl (by decide +kernel) (nb_rm (Nat.le_of_ble_eq_true rfl) (Nat.le_of_ble_eq_true rfl)) nb_a1 rfl rfl rfl hl.1 rfl (Nat.le_of_ble_eq_true rfl) dX0_riskBy_5 (fun H locs hP hS => ?_)
  refine W.eq (g2 := F0 m 8 ls [.int r_1, .int (0 : Int32), .ref (ad 1)]) rfl ?_
  refine lv_iload_n hx hb dX0_riskBy_8 rfl (lv_at hl 2 rfl) ?_
  refine lv_aload_n hx hb dX0_riskBy_9 rfl (lv_at hl 0 rfl) ?_
  refine va_get (v := .int (M.1 1 0)) (C := RX0) (T := TX0) (N := 16) hx hb hts in0 hown hK.1 hP 1 nb_a1 rfl 0 (by decide) w_1 (fun _ h9 => h9) rfl dX0_riskBy_10 ?_
  refine lv_bipush (v := (7 : Int32)) hx hb dX0_riskBy_13 (by decide) ?_
  refine lv_irem hx hb dX0_riskBy_15 (by decide) ?_
  obtain ⟨r_2, M_2, e_2, h⟩ := nb_pE h
  refine nb_callV (n := 4) (As := [.int (0 : Int32), .int r_1, .int p1, .int ((M.1 1 0) - (M.1 1 0) / (7 : Int32) * (7 : Int32))]) (rest := []) hx hb hml hown hts hK hZ hP hS (k_X0_gives had M N (0 : Int32) r_1 p1 ((M.1 1 0) - (M.1 1 0) / (7 : Int32) * (7 : Int32)) e_2) gX0_riskBy_X0_gives rfl (by decide +kernel) (nb_rm (Nat.le_of_ble_eq_true rfl) (Nat.le_of_ble_eq_true rfl)) nb_a1 rfl rfl rfl hl.1 rfl (Nat.le_of_ble_eq_true rfl) dX0_riskBy_16 (fun H locs hP hS => ?_)
  refine W.eq (g2 := F0 m 19 ls [.int r_2]) rfl ?_
  obtain ⟨rfl, rfl⟩ := nb_e2 h
  exact nb_iret hx hb hr hlk hP hS dX0_riskBy_19
set_option maxHeartbeats 4000000 in
set_option maxRecDepth 100000 in
theorem k_X0_riskIn {r : Int32} {M' : nb_M} (had : nb_AD ad b0) (M N : nb_M) (p0 : Int32) (p1 : Int32) (h : f_X0_riskIn M p0 p1 = some (r, M')) : nb_C l D ad ca b0 yX0_riskIn wsX0_riskIn 4 [.ref (ad 1), .int p0, .int p1] M N (some (.int r)) M' N := by
  refine nb_of (cc := cX0_riskIn) (maxL := 3) (ret := (some .int)) (own := RX0) (by decide +kernel) rfl rfl (Nat.le_of_ble_eq_true rfl) ?_
  intro p e s m args below meth c ls X hP hS hl
  have hl : lv_has ls 3 [(0, .ref (ad 1)), (1, .int p0), (2, .int p1)] := hl
  obtain ⟨hx, hb, hml, hown, hts, hr, hlk, hK, hZ⟩ := id X
  have w_1 := hts (.fieldLink RX0 15 "NineBreakages$House" "care" "[I") (by decide +kernel)
  have in0 : ∀ w ∈ u_ws RX0 TX0 16, w ∈ wsX0_riskIn := fun w q => List.mem_cons_of_mem _ (List.mem_append_left _ (List.mem_append_right _ q))
  unfold f_X0_riskIn at h
  refine lv_aload_n hx hb dX0_riskIn_0 rfl (lv_at hl 0 rfl) ?_
  refine lv_iload_n hx hb dX0_riskIn_1 rfl (lv_at hl 1 rfl) ?_
  refine lv_aload_n hx hb dX0_riskIn_2 rfl (lv_at hl 0 rfl) ?_
  refine va_get (v := .ref (ad 2)) (C := RX0) (T := TX0) (N := 16) hx hb hts in0 hown hK.1 hP 1 nb_a1 rfl 3 (by decide) w_1 (fun _ h9 => h9) rfl dX0_riskIn_3 ?_
  refine lv_iload_n hx hb dX0_riskIn_6 rfl (lv_at hl 2 rfl) ?_
  obtain ⟨c_1, h⟩ := nb_c h
  refine va_iald hx hb hK.1 hP 2 0 nb_a2 rfl c_1 dX0_riskIn_7 ?_
  obtain ⟨r_2, M_2, e_2, h⟩ := nb_pE h
  refine nb_callV (n := 2) (As := [.int p0, .int (M.1 2 p1.toNatClampNeg)]) (rest := []) hx hb hml hown hts hK hZ hP hS (k_X0_riskBy had M N p0 (M.1 2 p1.toNatClampNeg) e_2) gX0_riskIn_X0_riskBy rfl (by decide +kernel) (nb_rm (Nat.le_of_ble_eq_true rfl) (Nat.le_of_ble_eq_true rfl)) nb_a1 rfl rfl rfl hl.1 rfl (Nat.le_of_ble_eq_true rfl) dX0_riskIn_8 (fun H locs hP hS => ?_)
  refine W.eq (g2 := F0 m 11 ls [.int r_2]) rfl ?_
  obtain ⟨rfl, rfl⟩ := nb_e2 h
  exact nb_iret hx hb hr hlk hP hS dX0_riskIn_11
set_option maxHeartbeats 4000000 in
set_option maxRecDepth 100000 in
theorem k_X6_pieceIs {r : Int32} {M' : nb_M} (had : nb_AD ad b0) (M N : nb_M) (p0 : Int32) (p1 : Int32) (h : f_X6_pieceIs M p0 p1 = some (r, M')) : nb_C l D ad ca b0 yX6_pieceIs wsX6_pieceIs 5 [.ref (ad 0), .int p0, .int p1] M N (some (.int r)) M' N := by
  refine nb_of (cc := cX6_pieceIs) (maxL := 3) (ret := (some .int)) (own := RX6) (by decide +kernel) rfl rfl (Nat.le_of_ble_eq_true rfl) ?_
  intro p e s m args below meth c ls X hP hS hl
  have hl : lv_has ls 3 [(0, .ref (ad 0)), (1, .int p0), (2, .int p1)] := hl
  obtain ⟨hx, hb, hml, hown, hts, hr, hlk, hK, hZ⟩ := id X
  have w_1 := hts (.fieldLink RX6 12 "NineBreakages" "now" "LNineBreakages$House;") (by decide +kernel)
  have in6 : ∀ w ∈ u_ws RX6 TX6 8, w ∈ wsX6_pieceIs := fun w q => List.mem_cons_of_mem _ (List.mem_append_left _ (List.mem_append_left _ (List.mem_append_right _ q)))
  have w_3 := hts (.fieldLink RX6 99 "NineBreakages$House" "kind" "[I") (by decide +kernel)
  have in0 : ∀ w ∈ u_ws RX0 TX0 16, w ∈ wsX6_pieceIs := fun w q => List.mem_cons_of_mem _ (List.mem_append_left _ (List.mem_append_right _ q))
  have w_5 := hts (.fieldLink RX6 102 "NineBreakages$House" "number" "[I") (by decide +kernel)
  have w_6 := hts (.fieldLink RX6 105 "NineBreakages$House" "owner" "[I") (by decide +kernel)
  have w_7 := hts (.fieldLink RX6 108 "NineBreakages$House" "state" "[I") (by decide +kernel)
  have w_8 := hts (.fieldLink RX6 111 "NineBreakages$House" "day" "I") (by decide +kernel)
  unfold f_X6_pieceIs at h
  refine lv_aload_n hx hb dX6_pieceIs_0 rfl (lv_at hl 0 rfl) ?_
  refine va_get (v := .ref (ad 1)) (C := RX6) (T := TX6) (N := 8) hx hb hts in6 hown hK.1 hP 0 nb_a0 rfl 0 (by decide) w_1 (fun _ h9 => h9) rfl dX6_pieceIs_1 ?_
  refine lv_iload_n hx hb dX6_pieceIs_4 rfl (lv_at hl 1 rfl) ?_
  refine nb_callV (n := 1) (As := [.int p0]) (rest := []) hx hb hml hown hts hK hZ hP hS (k_X0_isPiece had M N p0) gX6_pieceIs_X0_isPiece rfl (by decide +kernel) (nb_rm (Nat.le_of_ble_eq_true rfl) (Nat.le_of_ble_eq_true rfl)) nb_a1 rfl rfl rfl hl.1 rfl (Nat.le_of_ble_eq_true rfl) dX6_pieceIs_5 (fun H locs hP hS => ?_)
  refine W.eq (g2 := F0 m 8 ls [.int (f_X0_isPiece M p0)]) rfl ?_
  refine lv_if_ne (tgt := 17) hx hb dX6_pieceIs_8 (by decide) (fun c_2 => ?_) (fun c_2 => ?_)
  · have h := nb_f c_2 h
    refine lv_iload_n hx hb dX6_pieceIs_17 rfl (lv_at hl 2 rfl) ?_
    refine nb_tsw [(0, 56), (1, 66), (2, 76), (3, 86), (4, 96), (5, 115)] 133 hx hb dX6_pieceIs_18 (by decide +kernel) ?_
    refine nb_split (fun c_3 => ?_) (fun c_3 => ?_)
    · have h := nb_t c_3 h
      refine lv_aload_n hx hb dX6_pieceIs_56 rfl (lv_at hl 0 rfl) ?_
      refine va_get (v := .ref (ad 1)) (C := RX6) (T := TX6) (N := 8) hx hb hts in6 hown hK.1 hP 0 nb_a0 rfl 0 (by decide) w_1 (fun _ h9 => h9) rfl dX6_pieceIs_57 ?_
      refine va_get (v := .ref (ad 5)) (C := RX0) (T := TX0) (N := 16) hx hb hts in0 hown hK.1 hP 1 nb_a1 rfl 7 (by decide) w_3 (fun _ h9 => h9) rfl dX6_pieceIs_60 ?_
      refine lv_iload_n hx hb dX6_pieceIs_63 rfl (lv_at hl 1 rfl) ?_
      obtain ⟨c_4, h⟩ := nb_c h
      refine va_iald hx hb hK.1 hP 5 0 nb_a5 rfl c_4 dX6_pieceIs_64 ?_
      obtain ⟨rfl, rfl⟩ := nb_e2 h
      exact nb_iret hx hb hr hlk hP hS dX6_pieceIs_65
    · have h := nb_f c_3 h
      refine nb_split (fun c_5 => ?_) (fun c_5 => ?_)
      · have h := nb_t c_5 h
        refine lv_aload_n hx hb dX6_pieceIs_66 rfl (lv_at hl 0 rfl) ?_
        refine va_get (v := .ref (ad 1)) (C := RX6) (T := TX6) (N := 8) hx hb hts in6 hown hK.1 hP 0 nb_a0 rfl 0 (by decide) w_1 (fun _ h9 => h9) rfl dX6_pieceIs_67 ?_
        refine va_get (v := .ref (ad 6)) (C := RX0) (T := TX0) (N := 16) hx hb hts in0 hown hK.1 hP 1 nb_a1 rfl 8 (by decide) w_5 (fun _ h9 => h9) rfl dX6_pieceIs_70 ?_
        refine lv_iload_n hx hb dX6_pieceIs_73 rfl (lv_at hl 1 rfl) ?_
        obtain ⟨c_6, h⟩ := nb_c h
        refine va_iald hx hb hK.1 hP 6 0 nb_a6 rfl c_6 dX6_pieceIs_74 ?_
        obtain ⟨rfl, rfl⟩ := nb_e2 h
        exact nb_iret hx hb hr hlk hP hS dX6_pieceIs_75
      · have h := nb_f c_5 h
        refine nb_split (fun c_7 => ?_) (fun c_7 => ?_)
        · have h := nb_t c_7 h
          refine lv_aload_n hx hb dX6_pieceIs_76 rfl (lv_at hl 0 rfl) ?_
          refine va_get (v := .ref (ad 1)) (C := RX6) (T := TX6) (N := 8) hx hb hts in6 hown hK.1 hP 0 nb_a0 rfl 0 (by decide) w_1 (fun _ h9 => h9) rfl dX6_pieceIs_77 ?_
          refine va_get (v := .ref (ad 7)) (C := RX0) (T := TX0) (N := 16) hx hb hts in0 hown hK.1 hP 1 nb_a1 rfl 9 (by decide) w_6 (fun _ h9 => h9) rfl dX6_pieceIs_80 ?_
          refine lv_iload_n hx hb dX6_pieceIs_83 rfl (lv_at hl 1 rfl) ?_
          obtain ⟨c_8, h⟩ := nb_c h
          refine va_iald hx hb hK.1 hP 7 0 nb_a7 rfl c_8 dX6_pieceIs_84 ?_
          obtain ⟨rfl, rfl⟩ := nb_e2 h
          exact nb_iret hx hb hr hlk hP hS dX6_pieceIs_85
        · have h := nb_f c_7 h
          refine nb_split (fun c_9 => ?_) (fun c_9 => ?_)
          · have h := nb_t c_9 h
            refine lv_aload_n hx hb dX6_pieceIs_86 rfl (lv_at hl 0 rfl) ?_
            refine va_get (v := .ref (ad 1)) (C := RX6) (T := TX6) (N := 8) hx hb hts in6 hown hK.1 hP 0 nb_a0 rfl 0 (by decide) w_1 (fun _ h9 => h9) rfl dX6_pieceIs_87 ?_
            refine va_get (v := .ref (ad 8)) (C := RX0) (T := TX0) (N := 16) hx hb hts in0 hown hK.1 hP 1 nb_a1 rfl 10 (by decide) w_7 (fun _ h9 => h9) rfl dX6_pieceIs_90 ?_
            refine lv_iload_n hx hb dX6_pieceIs_93 rfl (lv_at hl 1 rfl) ?_
            obtain ⟨c_10, h⟩ := nb_c h
            refine va_iald hx hb hK.1 hP 8 0 nb_a8 rfl c_10 dX6_pieceIs_94 ?_
            obtain ⟨rfl, rfl⟩ := nb_e2 h
            exact nb_iret hx hb hr hlk hP hS dX6_pieceIs_95
          · have h := nb_f c_9 h
            refine nb_split (fun c_11 => ?_) (fun c_11 => ?_)
            · have h := nb_t c_11 h
              refine lv_aload_n hx hb dX6_pieceIs_96 rfl (lv_at hl 0 rfl) ?_
              refine va_get (v := .ref (ad 1)) (C := RX6) (T := TX6) (N := 8) hx hb hts in6 hown hK.1 hP 0 nb_a0 rfl 0 (by decide) w_1 (fun _ h9 => h9) rfl dX6_pieceIs_97 ?_
              refine lv_iload_n hx hb dX6_pieceIs_100 rfl (lv_at hl 1 rfl) ?_
              refine lv_aload_n hx hb dX6_pieceIs_101 rfl (lv_at hl 0 rfl) ?_
              refine va_get (v := .ref (ad 1)) (C := RX6) (T := TX6) (N := 8) hx hb hts in6 hown hK.1 hP 0 nb_a0 rfl 0 (by decide) w_1 (fun _ h9 => h9) rfl dX6_pieceIs_102 ?_
              refine va_get (v := .int (M.1 1 0)) (C := RX0) (T := TX0) (N := 16) hx hb hts in0 hown hK.1 hP 1 nb_a1 rfl 0 (by decide) w_8 (fun _ h9 => h9) rfl dX6_pieceIs_105 ?_
              obtain ⟨r_12, e_12, h⟩ := nb_oE h
              refine nb_callV (n := 2) (As := [.int p0, .int (M.1 1 0)]) (rest := []) hx hb hml hown hts hK hZ hP hS (k_X0_countsOn had M N p0 (M.1 1 0) e_12) gX6_pieceIs_X0_countsOn rfl (by decide +kernel) (nb_rm (Nat.le_of_ble_eq_true rfl) (Nat.le_of_ble_eq_true rfl)) nb_a1 rfl rfl rfl hl.1 rfl (Nat.le_of_ble_eq_true rfl) dX6_pieceIs_108 (fun H locs hP hS => ?_)
              refine W.eq (g2 := F0 m 111 ls [.int r_12]) rfl ?_
              refine nb_callS (n := 1) (As := [.int r_12]) (rest := []) hx hb hml hown hts hK hZ hP hS (k_X6_bit had M N r_12) gX6_pieceIs_X6_bit rfl (by decide +kernel) (nb_rm (Nat.le_of_ble_eq_true rfl) (Nat.le_of_ble_eq_true rfl)) rfl hl.1 rfl (Nat.le_of_ble_eq_true rfl) dX6_pieceIs_111 (fun H locs hP hS => ?_)
              refine W.eq (g2 := F0 m 114 ls [.int (f_X6_bit r_12)]) rfl ?_
              obtain ⟨rfl, rfl⟩ := nb_e2 h
              exact nb_iret hx hb hr hlk hP hS dX6_pieceIs_114
            · have h := nb_f c_11 h
              refine nb_split (fun c_14 => ?_) (fun c_14 => ?_)
              · have h := nb_t c_14 h
                refine lv_aload_n hx hb dX6_pieceIs_115 rfl (lv_at hl 0 rfl) ?_
                refine va_get (v := .ref (ad 1)) (C := RX6) (T := TX6) (N := 8) hx hb hts in6 hown hK.1 hP 0 nb_a0 rfl 0 (by decide) w_1 (fun _ h9 => h9) rfl dX6_pieceIs_116 ?_
                refine lv_iload_n hx hb dX6_pieceIs_119 rfl (lv_at hl 1 rfl) ?_
                refine lv_aload_n hx hb dX6_pieceIs_120 rfl (lv_at hl 0 rfl) ?_
                refine va_get (v := .ref (ad 1)) (C := RX6) (T := TX6) (N := 8) hx hb hts in6 hown hK.1 hP 0 nb_a0 rfl 0 (by decide) w_1 (fun _ h9 => h9) rfl dX6_pieceIs_121 ?_
                refine va_get (v := .ref (ad 7)) (C := RX0) (T := TX0) (N := 16) hx hb hts in0 hown hK.1 hP 1 nb_a1 rfl 9 (by decide) w_6 (fun _ h9 => h9) rfl dX6_pieceIs_124 ?_
                refine lv_iload_n hx hb dX6_pieceIs_127 rfl (lv_at hl 1 rfl) ?_
                obtain ⟨c_15, h⟩ := nb_c h
                refine va_iald hx hb hK.1 hP 7 0 nb_a7 rfl c_15 dX6_pieceIs_128 ?_
                obtain ⟨r_16, M_16, e_16, h⟩ := nb_pE h
                refine nb_callV (n := 2) (As := [.int p0, .int (M.1 7 p0.toNatClampNeg)]) (rest := []) hx hb hml hown hts hK hZ hP hS (k_X0_riskIn had M N p0 (M.1 7 p0.toNatClampNeg) e_16) gX6_pieceIs_X0_riskIn rfl (by decide +kernel) (nb_rm (Nat.le_of_ble_eq_true rfl) (Nat.le_of_ble_eq_true rfl)) nb_a1 rfl rfl rfl hl.1 rfl (Nat.le_of_ble_eq_true rfl) dX6_pieceIs_129 (fun H locs hP hS => ?_)
                refine W.eq (g2 := F0 m 132 ls [.int r_16]) rfl ?_
                obtain ⟨rfl, rfl⟩ := nb_e2 h
                exact nb_iret hx hb hr hlk hP hS dX6_pieceIs_132
              · have h := nb_f c_14 h
                refine W.eq (g2 := F0 m 133 ls []) rfl ?_
                refine lv_aload_n hx hb dX6_pieceIs_133 rfl (lv_at hl 0 rfl) ?_
                refine lv_iconst (v := (1 : Int32)) hx hb dX6_pieceIs_134 (by decide) ?_
                obtain ⟨r_17, M_17, e_17, h⟩ := nb_pE h
                refine nb_callV (n := 1) (As := [.int (1 : Int32)]) (rest := []) hx hb hml hown hts hK hZ hP hS (k_X6_fail had M N (1 : Int32) e_17) gX6_pieceIs_X6_fail rfl (by decide +kernel) (nb_rm (Nat.le_of_ble_eq_true rfl) (Nat.le_of_ble_eq_true rfl)) nb_a0 rfl rfl rfl hl.1 rfl (Nat.le_of_ble_eq_true rfl) dX6_pieceIs_135 (fun H locs hP hS => ?_)
                refine W.eq (g2 := F0 m 138 ls [.int r_17]) rfl ?_
                obtain ⟨rfl, rfl⟩ := nb_e2 h
                exact nb_iret hx hb hr hlk hP hS dX6_pieceIs_138
  · have h := nb_t c_2 h
    refine lv_aload_n hx hb dX6_pieceIs_11 rfl (lv_at hl 0 rfl) ?_
    refine lv_iconst (v := (1 : Int32)) hx hb dX6_pieceIs_12 (by decide) ?_
    obtain ⟨r_18, M_18, e_18, h⟩ := nb_pE h
    refine nb_callV (n := 1) (As := [.int (1 : Int32)]) (rest := []) hx hb hml hown hts hK hZ hP hS (k_X6_fail had M N (1 : Int32) e_18) gX6_pieceIs_X6_fail rfl (by decide +kernel) (nb_rm (Nat.le_of_ble_eq_true rfl) (Nat.le_of_ble_eq_true rfl)) nb_a0 rfl rfl rfl hl.1 rfl (Nat.le_of_ble_eq_true rfl) dX6_pieceIs_13 (fun H locs hP hS => ?_)
    refine W.eq (g2 := F0 m 16 ls [.int r_18]) rfl ?_
    obtain ⟨rfl, rfl⟩ := nb_e2 h
    exact nb_iret hx hb hr hlk hP hS dX6_pieceIs_16
set_option maxHeartbeats 4000000 in
set_option maxRecDepth 100000 in
theorem k_X6_become {r : Int32} {M' : nb_M} (had : nb_AD ad b0) (M N : nb_M) (p0 : Int32) (p1 : Int32) (h : f_X6_become M p0 p1 = some (r, M')) : nb_C l D ad ca b0 yX6_become wsX6_become 1 [.ref (ad 0), .int p0, .int p1] M N (some (.int r)) M' N := by
  refine nb_of (cc := cX6_become) (maxL := 4) (ret := (some .int)) (own := RX6) (by decide +kernel) rfl rfl (Nat.le_of_ble_eq_true rfl) ?_
  intro p e s m args below meth c ls X hP hS hl
  have hl : lv_has ls 4 [(0, .ref (ad 0)), (1, .int p0), (2, .int p1)] := hl
  obtain ⟨hx, hb, hml, hown, hts, hr, hlk, hK, hZ⟩ := id X
  have w_1 := hts (.fieldLink RX6 12 "NineBreakages" "now" "LNineBreakages$House;") (by decide +kernel)
  have in6 : ∀ w ∈ u_ws RX6 TX6 8, w ∈ wsX6_become := fun w q => List.mem_cons_of_mem _ (List.mem_append_left _ (List.mem_append_right _ q))
  have w_3 := hts (.fieldLink RX6 99 "NineBreakages$House" "kind" "[I") (by decide +kernel)
  have in0 : ∀ w ∈ u_ws RX0 TX0 16, w ∈ wsX6_become := fun w q => List.mem_cons_of_mem _ (List.mem_append_right _ q)
  unfold f_X6_become at h
  refine lv_aload_n hx hb dX6_become_0 rfl (lv_at hl 0 rfl) ?_
  refine va_get (v := .ref (ad 1)) (C := RX6) (T := TX6) (N := 8) hx hb hts in6 hown hK.1 hP 0 nb_a0 rfl 0 (by decide) w_1 (fun _ h9 => h9) rfl dX6_become_1 ?_
  refine lv_iload_n hx hb dX6_become_4 rfl (lv_at hl 1 rfl) ?_
  refine nb_callV (n := 1) (As := [.int p0]) (rest := []) hx hb hml hown hts hK hZ hP hS (k_X0_isPiece had M N p0) gX6_become_X0_isPiece rfl (by decide +kernel) (nb_rm (Nat.le_of_ble_eq_true rfl) (Nat.le_of_ble_eq_true rfl)) nb_a1 rfl rfl rfl hl.1 rfl (Nat.le_of_ble_eq_true rfl) dX6_become_5 (fun H locs hP hS => ?_)
  refine W.eq (g2 := F0 m 8 ls [.int (f_X0_isPiece M p0)]) rfl ?_
  refine lv_if_eq (tgt := 20) hx hb dX6_become_8 (by decide) (fun c_2 => ?_) (fun c_2 => ?_)
  · have h := nb_t c_2 h
    refine lv_aload_n hx hb dX6_become_20 rfl (lv_at hl 0 rfl) ?_
    refine lv_iconst (v := (1 : Int32)) hx hb dX6_become_21 (by decide) ?_
    obtain ⟨r_3, M_3, e_3, h⟩ := nb_pE h
    refine nb_callV (n := 1) (As := [.int (1 : Int32)]) (rest := []) hx hb hml hown hts hK hZ hP hS (k_X6_fail had M N (1 : Int32) e_3) gX6_become_X6_fail rfl (by decide +kernel) (nb_rm (Nat.le_of_ble_eq_true rfl) (Nat.le_of_ble_eq_true rfl)) nb_a0 rfl rfl rfl hl.1 rfl (Nat.le_of_ble_eq_true rfl) dX6_become_22 (fun H locs hP hS => ?_)
    refine W.eq (g2 := F0 m 25 ls [.int r_3]) rfl ?_
    obtain ⟨rfl, rfl⟩ := nb_e2 h
    exact nb_iret hx hb hr hlk hP hS dX6_become_25
  · have h := nb_f c_2 h
    refine lv_iload_n hx hb dX6_become_11 rfl (lv_at hl 2 rfl) ?_
    refine lv_bipush (v := (69 : Int32)) hx hb dX6_become_12 (by decide) ?_
    refine nb_callS (n := 2) (As := [.int p1, .int (69 : Int32)]) (rest := []) hx hb hml hown hts hK hZ hP hS (k_X6_within had M N p1 (69 : Int32)) gX6_become_X6_within rfl (by decide +kernel) (nb_rm (Nat.le_of_ble_eq_true rfl) (Nat.le_of_ble_eq_true rfl)) rfl hl.1 rfl (Nat.le_of_ble_eq_true rfl) dX6_become_14 (fun H locs hP hS => ?_)
    refine W.eq (g2 := F0 m 17 ls [.int (f_X6_within p1 (69 : Int32))]) rfl ?_
    refine lv_if_ne (tgt := 26) hx hb dX6_become_17 (by decide) (fun c_5 => ?_) (fun c_5 => ?_)
    · have h := nb_f c_5 h
      refine lv_aload_n hx hb dX6_become_26 rfl (lv_at hl 0 rfl) ?_
      refine va_get (v := .ref (ad 1)) (C := RX6) (T := TX6) (N := 8) hx hb hts in6 hown hK.1 hP 0 nb_a0 rfl 0 (by decide) w_1 (fun _ h9 => h9) rfl dX6_become_27 ?_
      refine va_get (v := .ref (ad 5)) (C := RX0) (T := TX0) (N := 16) hx hb hts in0 hown hK.1 hP 1 nb_a1 rfl 7 (by decide) w_3 (fun _ h9 => h9) rfl dX6_become_30 ?_
      refine lv_iload_n hx hb dX6_become_33 rfl (lv_at hl 1 rfl) ?_
      obtain ⟨c_6, h⟩ := nb_c h
      refine va_iald hx hb hK.1 hP 5 0 nb_a5 rfl c_6 dX6_become_34 ?_
      refine lv_topi (fun v_7 e_7 => ?_)
      have h := nb_nA e_7 h
      refine lv_istore_n (lv' := [(3, .int v_7), (0, .ref (ad 0)), (1, .int p0), (2, .int p1)]) hx hb dX6_become_35 rfl hl (by decide) rfl (fun ls hl => ?_)
      refine lv_aload_n hx hb dX6_become_36 rfl (lv_at hl 1 rfl) ?_
      refine va_get (v := .ref (ad 1)) (C := RX6) (T := TX6) (N := 8) hx hb hts in6 hown hK.1 hP 0 nb_a0 rfl 0 (by decide) w_1 (fun _ h9 => h9) rfl dX6_become_37 ?_
      refine lv_iload_n hx hb dX6_become_40 rfl (lv_at hl 2 rfl) ?_
      refine lv_iload_n hx hb dX6_become_41 rfl (lv_at hl 3 rfl) ?_
      obtain ⟨M_8, e_8, h⟩ := nb_oE h
      refine nb_callV (n := 2) (As := [.int p0, .int p1]) (rest := []) hx hb hml hown hts hK hZ hP hS (k_X0_shape had M N p0 p1 e_8) gX6_become_X0_shape rfl (by decide +kernel) (nb_rm (Nat.le_of_ble_eq_true rfl) (Nat.le_of_ble_eq_true rfl)) nb_a1 rfl rfl rfl hl.1 rfl (Nat.le_of_ble_eq_true rfl) dX6_become_42 (fun H locs hP hS => ?_)
      refine W.eq (g2 := F0 m 45 ls []) rfl ?_
      refine lv_iload_n hx hb dX6_become_45 rfl (lv_at hl 0 rfl) ?_
      obtain ⟨rfl, rfl⟩ := nb_e2 h
      exact nb_iret hx hb hr hlk hP hS dX6_become_46
    · have h := nb_t c_5 h
      refine lv_aload_n hx hb dX6_become_20 rfl (lv_at hl 0 rfl) ?_
      refine lv_iconst (v := (1 : Int32)) hx hb dX6_become_21 (by decide) ?_
      obtain ⟨r_9, M_9, e_9, h⟩ := nb_pE h
      refine nb_callV (n := 1) (As := [.int (1 : Int32)]) (rest := []) hx hb hml hown hts hK hZ hP hS (k_X6_fail had M N (1 : Int32) e_9) gX6_become_X6_fail rfl (by decide +kernel) (nb_rm (Nat.le_of_ble_eq_true rfl) (Nat.le_of_ble_eq_true rfl)) nb_a0 rfl rfl rfl hl.1 rfl (Nat.le_of_ble_eq_true rfl) dX6_become_22 (fun H locs hP hS => ?_)
      refine W.eq (g2 := F0 m 25 ls [.int r_9]) rfl ?_
      obtain ⟨rfl, rfl⟩ := nb_e2 h
      exact nb_iret hx hb hr hlk hP hS dX6_become_25
set_option maxHeartbeats 4000000 in
set_option maxRecDepth 100000 in
theorem w_X6_isUnder_4 {N : nb_M} {M : nb_M} {r : Int32} (had : nb_AD ad b0) (X : nb_X p s m args meth c cX6_isUnder 4 RX6 (some .boolean) wsX6_isUnder D ca b0) : ∀ (n : Nat) (x1 : Int32) (x2 : Int32) (x3 : Int32), f_X6_isUnder_4 n x1 x2 x3 = some r → ∀ (H : Heap) (locs : List Loc), va_P D vwCl (nb_w ad ca M N) H → va_S (fun q => b0 ≤ q) s.heap H locs → ∀ ls : Array Slot, lv_has ls 4 [(1, .int x1), (2, .int x2), (3, .int x3)] → W p l e (nb_R 0) s m args below meth c H locs 0 0 (nb_Q below args s D ad ca b0 (some (.int r)) M N) (F0 m 4 ls []) := by
  obtain ⟨hx, hb, hml, hown, hts, hr, hlk, hK, hZ⟩ := id X
  obtain ⟨t1, t2, t3, ⟨hZ1, hT1⟩, ⟨hZ2, hT2⟩, ⟨hZ3, hT3⟩⟩ := id hZ
  have w_1 := hts (.fieldLink RX6 312 "NineBreakages" "ABOVE" "[I") (by decide +kernel)
  intro n
  induction n with
  | zero =>
    intro x1 x2 x3 h
    rw [f_X6_isUnder_4] at h
    cases h
  | succ n ih =>
    intro x1 x2 x3 h H locs hP hS ls hl
    rw [f_X6_isUnder_4] at h
    refine lv_iload_n hx hb dX6_isUnder_4 rfl (lv_at hl 2 rfl) ?_
    refine lv_bipush (v := (6 : Int32)) hx hb dX6_isUnder_5 (by decide) ?_
    refine lv_icmp_gt (tgt := 39) hx hb dX6_isUnder_7 (by decide) (fun c_1 => ?_) (fun c_1 => ?_)
    · have h := nb_t c_1 h
      refine lv_iconst (v := (0 : Int32)) hx hb dX6_isUnder_39 (by decide) ?_
      obtain rfl := nb_e1 h
      exact nb_zret (by decide) hx hb hr hlk hP hS dX6_isUnder_40
    · have h := nb_f c_1 h
      refine lv_iload_n hx hb dX6_isUnder_10 rfl (lv_at hl 1 rfl) ?_
      refine lv_if_lt (tgt := 39) hx hb dX6_isUnder_11 (by decide) (fun c_2 => ?_) (fun c_2 => ?_)
      · have h := nb_t c_2 h
        refine lv_iconst (v := (0 : Int32)) hx hb dX6_isUnder_39 (by decide) ?_
        obtain rfl := nb_e1 h
        exact nb_zret (by decide) hx hb hr hlk hP hS dX6_isUnder_40
      · have h := nb_f c_2 h
        refine lv_iload_n hx hb dX6_isUnder_14 rfl (lv_at hl 1 rfl) ?_
        refine lv_bipush (v := (6 : Int32)) hx hb dX6_isUnder_15 (by decide) ?_
        refine lv_icmp_gt (tgt := 39) hx hb dX6_isUnder_17 (by decide) (fun c_3 => ?_) (fun c_3 => ?_)
        · have h := nb_t c_3 h
          refine lv_iconst (v := (0 : Int32)) hx hb dX6_isUnder_39 (by decide) ?_
          obtain rfl := nb_e1 h
          exact nb_zret (by decide) hx hb hr hlk hP hS dX6_isUnder_40
        · have h := nb_f c_3 h
          refine lv_iload_n hx hb dX6_isUnder_20 rfl (lv_at hl 1 rfl) ?_
          refine lv_iload_n hx hb dX6_isUnder_21 rfl (lv_at hl 0 rfl) ?_
          refine lv_icmp_ne (tgt := 27) hx hb dX6_isUnder_22 (by decide) (fun c_4 => ?_) (fun c_4 => ?_)
          · have h := nb_f c_4 h
            refine va_gets hx hb hZ1 hS hown w_1 (fun _ h9 => h9) dX6_isUnder_27 ?_
            refine lv_iload_n hx hb dX6_isUnder_30 rfl (lv_at hl 1 rfl) ?_
            obtain ⟨c_5, h⟩ := nb_c h
            refine va_ti (v := .int (nb_above x2.toNatClampNeg)) hx hb hT1 hS c_5 rfl dX6_isUnder_31 ?_
            refine lv_topi (fun v_6 e_6 => ?_)
            have h := nb_nA e_6 h
            refine lv_istore_n (lv' := [(2, .int v_6), (1, .int x1), (3, .int x3)]) hx hb dX6_isUnder_32 rfl hl (by decide) rfl (fun ls hl => ?_)
            refine lv_iinc (v := x3 + 1) (lv' := [(3, .int (x3 + 1)), (2, .int v_6), (1, .int x1)]) hx hb dX6_isUnder_33 hl (k := 2) rfl (congrArg (HAdd.hAdd x3) (by decide)) (by decide) rfl (fun ls hl => ?_)
            refine lv_goto (tgt := 4) hx hb dX6_isUnder_36 (by decide) ?_
            exact ih _ _ _ h _ _ hP hS _ (lv_sub hl [2, 1, 0] rfl)
          · have h := nb_t c_4 h
            refine lv_iconst (v := (1 : Int32)) hx hb dX6_isUnder_25 (by decide) ?_
            obtain rfl := nb_e1 h
            exact nb_zret (by decide) hx hb hr hlk hP hS dX6_isUnder_26
set_option maxHeartbeats 4000000 in
set_option maxRecDepth 100000 in
theorem k_X6_isUnder {r : Int32} (had : nb_AD ad b0) (M N : nb_M) (p0 : Int32) (p1 : Int32) (h : f_X6_isUnder p0 p1 = some r) : nb_C l D ad ca b0 yX6_isUnder wsX6_isUnder 0 [.int p0, .int p1] M N (some (.int r)) M N := by
  refine nb_of (cc := cX6_isUnder) (maxL := 4) (ret := (some .boolean)) (own := RX6) (by decide +kernel) rfl rfl (Nat.le_of_ble_eq_true rfl) ?_
  intro p e s m args below meth c ls X hP hS hl
  have hl : lv_has ls 4 [(0, .int p0), (1, .int p1)] := hl
  obtain ⟨hx, hb, hml, hown, hts, hr, hlk, hK, hZ⟩ := id X
  unfold f_X6_isUnder at h
  refine lv_iload_n hx hb dX6_isUnder_0 rfl (lv_at hl 0 rfl) ?_
  refine lv_istore_n (lv' := [(2, .int p0), (0, .int p0), (1, .int p1)]) hx hb dX6_isUnder_1 rfl hl (by decide) rfl (fun ls hl => ?_)
  refine lv_iconst (v := (0 : Int32)) hx hb dX6_isUnder_2 (by decide) ?_
  refine lv_istore_n (lv' := [(3, .int (0 : Int32)), (2, .int p0), (0, .int p0), (1, .int p1)]) hx hb dX6_isUnder_3 rfl hl (by decide) rfl (fun ls hl => ?_)
  exact w_X6_isUnder_4 had X nb_F _ _ _ h _ _ hP hS _ (lv_sub hl [3, 1, 0] rfl)
set_option maxHeartbeats 4000000 in
set_option maxRecDepth 100000 in
theorem k_X6_as {r : Int32} {M' : nb_M} (had : nb_AD ad b0) (M N : nb_M) (p0 : Int32) (p1 : Int32) (h : f_X6_as M p0 p1 = some (r, M')) : nb_C l D ad ca b0 yX6_as wsX6_as 1 [.ref (ad 0), .int p0, .int p1] M N (some (.int r)) M' N := by
  refine nb_of (cc := cX6_as) (maxL := 3) (ret := (some .int)) (own := RX6) (by decide +kernel) rfl rfl (Nat.le_of_ble_eq_true rfl) ?_
  intro p e s m args below meth c ls X hP hS hl
  have hl : lv_has ls 3 [(0, .ref (ad 0)), (1, .int p0), (2, .int p1)] := hl
  obtain ⟨hx, hb, hml, hown, hts, hr, hlk, hK, hZ⟩ := id X
  have w_1 := hts (.fieldLink RX6 12 "NineBreakages" "now" "LNineBreakages$House;") (by decide +kernel)
  have in6 : ∀ w ∈ u_ws RX6 TX6 8, w ∈ wsX6_as := fun w q => List.mem_cons_of_mem _ (List.mem_append_left _ (List.mem_append_right _ q))
  have w_3 := hts (.fieldLink RX6 99 "NineBreakages$House" "kind" "[I") (by decide +kernel)
  have in0 : ∀ w ∈ u_ws RX0 TX0 16, w ∈ wsX6_as := fun w q => List.mem_cons_of_mem _ (List.mem_append_right _ q)
  have w_5 := hts (.fieldLink RX6 102 "NineBreakages$House" "number" "[I") (by decide +kernel)
  unfold f_X6_as at h
  refine lv_aload_n hx hb dX6_as_0 rfl (lv_at hl 0 rfl) ?_
  refine va_get (v := .ref (ad 1)) (C := RX6) (T := TX6) (N := 8) hx hb hts in6 hown hK.1 hP 0 nb_a0 rfl 0 (by decide) w_1 (fun _ h9 => h9) rfl dX6_as_1 ?_
  refine lv_iload_n hx hb dX6_as_4 rfl (lv_at hl 1 rfl) ?_
  refine nb_callV (n := 1) (As := [.int p0]) (rest := []) hx hb hml hown hts hK hZ hP hS (k_X0_isPiece had M N p0) gX6_as_X0_isPiece rfl (by decide +kernel) (nb_rm (Nat.le_of_ble_eq_true rfl) (Nat.le_of_ble_eq_true rfl)) nb_a1 rfl rfl rfl hl.1 rfl (Nat.le_of_ble_eq_true rfl) dX6_as_5 (fun H locs hP hS => ?_)
  refine W.eq (g2 := F0 m 8 ls [.int (f_X0_isPiece M p0)]) rfl ?_
  refine lv_if_eq (tgt := 20) hx hb dX6_as_8 (by decide) (fun c_2 => ?_) (fun c_2 => ?_)
  · have h := nb_t c_2 h
    refine lv_aload_n hx hb dX6_as_20 rfl (lv_at hl 0 rfl) ?_
    refine lv_iconst (v := (1 : Int32)) hx hb dX6_as_21 (by decide) ?_
    obtain ⟨r_3, M_3, e_3, h⟩ := nb_pE h
    refine nb_callV (n := 1) (As := [.int (1 : Int32)]) (rest := []) hx hb hml hown hts hK hZ hP hS (k_X6_fail had M N (1 : Int32) e_3) gX6_as_X6_fail rfl (by decide +kernel) (nb_rm (Nat.le_of_ble_eq_true rfl) (Nat.le_of_ble_eq_true rfl)) nb_a0 rfl rfl rfl hl.1 rfl (Nat.le_of_ble_eq_true rfl) dX6_as_22 (fun H locs hP hS => ?_)
    refine W.eq (g2 := F0 m 25 ls [.int r_3]) rfl ?_
    obtain ⟨rfl, rfl⟩ := nb_e2 h
    exact nb_iret hx hb hr hlk hP hS dX6_as_25
  · have h := nb_f c_2 h
    refine lv_iload_n hx hb dX6_as_11 rfl (lv_at hl 2 rfl) ?_
    refine lv_bipush (v := (6 : Int32)) hx hb dX6_as_12 (by decide) ?_
    refine nb_callS (n := 2) (As := [.int p1, .int (6 : Int32)]) (rest := []) hx hb hml hown hts hK hZ hP hS (k_X6_within had M N p1 (6 : Int32)) gX6_as_X6_within rfl (by decide +kernel) (nb_rm (Nat.le_of_ble_eq_true rfl) (Nat.le_of_ble_eq_true rfl)) rfl hl.1 rfl (Nat.le_of_ble_eq_true rfl) dX6_as_14 (fun H locs hP hS => ?_)
    refine W.eq (g2 := F0 m 17 ls [.int (f_X6_within p1 (6 : Int32))]) rfl ?_
    refine lv_if_ne (tgt := 26) hx hb dX6_as_17 (by decide) (fun c_5 => ?_) (fun c_5 => ?_)
    · have h := nb_f c_5 h
      refine lv_aload_n hx hb dX6_as_26 rfl (lv_at hl 0 rfl) ?_
      refine va_get (v := .ref (ad 1)) (C := RX6) (T := TX6) (N := 8) hx hb hts in6 hown hK.1 hP 0 nb_a0 rfl 0 (by decide) w_1 (fun _ h9 => h9) rfl dX6_as_27 ?_
      refine va_get (v := .ref (ad 5)) (C := RX0) (T := TX0) (N := 16) hx hb hts in0 hown hK.1 hP 1 nb_a1 rfl 7 (by decide) w_3 (fun _ h9 => h9) rfl dX6_as_30 ?_
      refine lv_iload_n hx hb dX6_as_33 rfl (lv_at hl 1 rfl) ?_
      obtain ⟨c_6, h⟩ := nb_c h
      refine va_iald hx hb hK.1 hP 5 0 nb_a5 rfl c_6 dX6_as_34 ?_
      refine lv_iload_n hx hb dX6_as_35 rfl (lv_at hl 2 rfl) ?_
      obtain ⟨r_7, e_7, h⟩ := nb_oE h
      refine nb_callS (n := 2) (As := [.int (M.1 5 p0.toNatClampNeg), .int p1]) (rest := []) hx hb hml hown hts hK hZ hP hS (k_X6_isUnder had M N (M.1 5 p0.toNatClampNeg) p1 e_7) gX6_as_X6_isUnder rfl (by decide +kernel) (nb_rm (Nat.le_of_ble_eq_true rfl) (Nat.le_of_ble_eq_true rfl)) rfl hl.1 rfl (Nat.le_of_ble_eq_true rfl) dX6_as_36 (fun H locs hP hS => ?_)
      refine W.eq (g2 := F0 m 39 ls [.int r_7]) rfl ?_
      refine lv_if_eq (tgt := 54) hx hb dX6_as_39 (by decide) (fun c_8 => ?_) (fun c_8 => ?_)
      · have h := nb_t c_8 h
        refine lv_aload_n hx hb dX6_as_54 rfl (lv_at hl 0 rfl) ?_
        refine lv_iconst (v := (5 : Int32)) hx hb dX6_as_55 (by decide) ?_
        obtain ⟨r_9, M_9, e_9, h⟩ := nb_pE h
        refine nb_callV (n := 1) (As := [.int (5 : Int32)]) (rest := []) hx hb hml hown hts hK hZ hP hS (k_X6_fail had M N (5 : Int32) e_9) gX6_as_X6_fail rfl (by decide +kernel) (nb_rm (Nat.le_of_ble_eq_true rfl) (Nat.le_of_ble_eq_true rfl)) nb_a0 rfl rfl rfl hl.1 rfl (Nat.le_of_ble_eq_true rfl) dX6_as_56 (fun H locs hP hS => ?_)
        refine W.eq (g2 := F0 m 59 ls [.int r_9]) rfl ?_
        obtain ⟨rfl, rfl⟩ := nb_e2 h
        exact nb_iret hx hb hr hlk hP hS dX6_as_59
      · have h := nb_f c_8 h
        refine lv_aload_n hx hb dX6_as_42 rfl (lv_at hl 0 rfl) ?_
        refine va_get (v := .ref (ad 1)) (C := RX6) (T := TX6) (N := 8) hx hb hts in6 hown hK.1 hP 0 nb_a0 rfl 0 (by decide) w_1 (fun _ h9 => h9) rfl dX6_as_43 ?_
        refine va_get (v := .ref (ad 6)) (C := RX0) (T := TX0) (N := 16) hx hb hts in0 hown hK.1 hP 1 nb_a1 rfl 8 (by decide) w_5 (fun _ h9 => h9) rfl dX6_as_46 ?_
        refine lv_iload_n hx hb dX6_as_49 rfl (lv_at hl 1 rfl) ?_
        refine va_iald hx hb hK.1 hP 6 0 nb_a6 rfl c_6 dX6_as_50 ?_
        refine lv_goto (tgt := 59) hx hb dX6_as_51 (by decide) ?_
        obtain ⟨rfl, rfl⟩ := nb_e2 h
        exact nb_iret hx hb hr hlk hP hS dX6_as_59
    · have h := nb_t c_5 h
      refine lv_aload_n hx hb dX6_as_20 rfl (lv_at hl 0 rfl) ?_
      refine lv_iconst (v := (1 : Int32)) hx hb dX6_as_21 (by decide) ?_
      obtain ⟨r_10, M_10, e_10, h⟩ := nb_pE h
      refine nb_callV (n := 1) (As := [.int (1 : Int32)]) (rest := []) hx hb hml hown hts hK hZ hP hS (k_X6_fail had M N (1 : Int32) e_10) gX6_as_X6_fail rfl (by decide +kernel) (nb_rm (Nat.le_of_ble_eq_true rfl) (Nat.le_of_ble_eq_true rfl)) nb_a0 rfl rfl rfl hl.1 rfl (Nat.le_of_ble_eq_true rfl) dX6_as_22 (fun H locs hP hS => ?_)
      refine W.eq (g2 := F0 m 25 ls [.int r_10]) rfl ?_
      obtain ⟨rfl, rfl⟩ := nb_e2 h
      exact nb_iret hx hb hr hlk hP hS dX6_as_25
set_option maxHeartbeats 4000000 in
set_option maxRecDepth 100000 in
theorem k_X6_minds {r : Int32} {M' : nb_M} (had : nb_AD ad b0) (M N : nb_M) (p0 : Int32) (p1 : Int32) (h : f_X6_minds M p0 p1 = some (r, M')) : nb_C l D ad ca b0 yX6_minds wsX6_minds 1 [.ref (ad 0), .int p0, .int p1] M N (some (.int r)) M' N := by
  refine nb_of (cc := cX6_minds) (maxL := 4) (ret := (some .int)) (own := RX6) (by decide +kernel) rfl rfl (Nat.le_of_ble_eq_true rfl) ?_
  intro p e s m args below meth c ls X hP hS hl
  have hl : lv_has ls 4 [(0, .ref (ad 0)), (1, .int p0), (2, .int p1)] := hl
  obtain ⟨hx, hb, hml, hown, hts, hr, hlk, hK, hZ⟩ := id X
  have w_1 := hts (.fieldLink RX6 12 "NineBreakages" "now" "LNineBreakages$House;") (by decide +kernel)
  have in6 : ∀ w ∈ u_ws RX6 TX6 8, w ∈ wsX6_minds := fun w q => List.mem_cons_of_mem _ (List.mem_append_left _ (List.mem_append_right _ q))
  have w_3 := hts (.fieldLink RX6 71 "NineBreakages$House" "care" "[I") (by decide +kernel)
  have in0 : ∀ w ∈ u_ws RX0 TX0 16, w ∈ wsX6_minds := fun w q => List.mem_cons_of_mem _ (List.mem_append_right _ q)
  unfold f_X6_minds at h
  refine lv_aload_n hx hb dX6_minds_0 rfl (lv_at hl 0 rfl) ?_
  refine va_get (v := .ref (ad 1)) (C := RX6) (T := TX6) (N := 8) hx hb hts in6 hown hK.1 hP 0 nb_a0 rfl 0 (by decide) w_1 (fun _ h9 => h9) rfl dX6_minds_1 ?_
  refine lv_iload_n hx hb dX6_minds_4 rfl (lv_at hl 1 rfl) ?_
  refine nb_callV (n := 1) (As := [.int p0]) (rest := []) hx hb hml hown hts hK hZ hP hS (k_X0_isPerson had M N p0) gX6_minds_X0_isPerson rfl (by decide +kernel) (nb_rm (Nat.le_of_ble_eq_true rfl) (Nat.le_of_ble_eq_true rfl)) nb_a1 rfl rfl rfl hl.1 rfl (Nat.le_of_ble_eq_true rfl) dX6_minds_5 (fun H locs hP hS => ?_)
  refine W.eq (g2 := F0 m 8 ls [.int (f_X0_isPerson M p0)]) rfl ?_
  refine lv_if_eq (tgt := 20) hx hb dX6_minds_8 (by decide) (fun c_2 => ?_) (fun c_2 => ?_)
  · have h := nb_t c_2 h
    refine lv_aload_n hx hb dX6_minds_20 rfl (lv_at hl 0 rfl) ?_
    refine lv_iconst (v := (1 : Int32)) hx hb dX6_minds_21 (by decide) ?_
    obtain ⟨r_3, M_3, e_3, h⟩ := nb_pE h
    refine nb_callV (n := 1) (As := [.int (1 : Int32)]) (rest := []) hx hb hml hown hts hK hZ hP hS (k_X6_fail had M N (1 : Int32) e_3) gX6_minds_X6_fail rfl (by decide +kernel) (nb_rm (Nat.le_of_ble_eq_true rfl) (Nat.le_of_ble_eq_true rfl)) nb_a0 rfl rfl rfl hl.1 rfl (Nat.le_of_ble_eq_true rfl) dX6_minds_22 (fun H locs hP hS => ?_)
    refine W.eq (g2 := F0 m 25 ls [.int r_3]) rfl ?_
    obtain ⟨rfl, rfl⟩ := nb_e2 h
    exact nb_iret hx hb hr hlk hP hS dX6_minds_25
  · have h := nb_f c_2 h
    refine lv_iload_n hx hb dX6_minds_11 rfl (lv_at hl 2 rfl) ?_
    refine lv_bipush (v := (9 : Int32)) hx hb dX6_minds_12 (by decide) ?_
    refine nb_callS (n := 2) (As := [.int p1, .int (9 : Int32)]) (rest := []) hx hb hml hown hts hK hZ hP hS (k_X6_within had M N p1 (9 : Int32)) gX6_minds_X6_within rfl (by decide +kernel) (nb_rm (Nat.le_of_ble_eq_true rfl) (Nat.le_of_ble_eq_true rfl)) rfl hl.1 rfl (Nat.le_of_ble_eq_true rfl) dX6_minds_14 (fun H locs hP hS => ?_)
    refine W.eq (g2 := F0 m 17 ls [.int (f_X6_within p1 (9 : Int32))]) rfl ?_
    refine lv_if_ne (tgt := 26) hx hb dX6_minds_17 (by decide) (fun c_5 => ?_) (fun c_5 => ?_)
    · have h := nb_f c_5 h
      refine lv_aload_n hx hb dX6_minds_26 rfl (lv_at hl 0 rfl) ?_
      refine va_get (v := .ref (ad 1)) (C := RX6) (T := TX6) (N := 8) hx hb hts in6 hown hK.1 hP 0 nb_a0 rfl 0 (by decide) w_1 (fun _ h9 => h9) rfl dX6_minds_27 ?_
      refine va_get (v := .ref (ad 2)) (C := RX0) (T := TX0) (N := 16) hx hb hts in0 hown hK.1 hP 1 nb_a1 rfl 3 (by decide) w_3 (fun _ h9 => h9) rfl dX6_minds_30 ?_
      refine lv_iload_n hx hb dX6_minds_33 rfl (lv_at hl 1 rfl) ?_
      obtain ⟨c_6, h⟩ := nb_c h
      refine va_iald hx hb hK.1 hP 2 0 nb_a2 rfl c_6 dX6_minds_34 ?_
      refine lv_topi (fun v_7 e_7 => ?_)
      have h := nb_nA e_7 h
      refine lv_istore_n (lv' := [(3, .int v_7), (0, .ref (ad 0)), (1, .int p0), (2, .int p1)]) hx hb dX6_minds_35 rfl hl (by decide) rfl (fun ls hl => ?_)
      refine lv_aload_n hx hb dX6_minds_36 rfl (lv_at hl 1 rfl) ?_
      refine va_get (v := .ref (ad 1)) (C := RX6) (T := TX6) (N := 8) hx hb hts in6 hown hK.1 hP 0 nb_a0 rfl 0 (by decide) w_1 (fun _ h9 => h9) rfl dX6_minds_37 ?_
      refine va_get (v := .ref (ad 2)) (C := RX0) (T := TX0) (N := 16) hx hb hts in0 hown hK.1 hP 1 nb_a1 rfl 3 (by decide) w_3 (fun _ h9 => h9) rfl dX6_minds_40 ?_
      refine lv_iload_n hx hb dX6_minds_43 rfl (lv_at hl 2 rfl) ?_
      refine lv_iload_n hx hb dX6_minds_44 rfl (lv_at hl 3 rfl) ?_
      refine nb_iast hx hb had hK hP hS nb_a2 c_6 (nb_t2 _ _) dX6_minds_45 (fun H locs hP hS => ?_)
      obtain ⟨M_8, e_8, h⟩ := nb_nE h
      rw [e_8] at hP
      refine lv_iload_n hx hb dX6_minds_46 rfl (lv_at hl 0 rfl) ?_
      obtain ⟨rfl, rfl⟩ := nb_e2 h
      exact nb_iret hx hb hr hlk hP hS dX6_minds_47
    · have h := nb_t c_5 h
      refine lv_aload_n hx hb dX6_minds_20 rfl (lv_at hl 0 rfl) ?_
      refine lv_iconst (v := (1 : Int32)) hx hb dX6_minds_21 (by decide) ?_
      obtain ⟨r_9, M_9, e_9, h⟩ := nb_pE h
      refine nb_callV (n := 1) (As := [.int (1 : Int32)]) (rest := []) hx hb hml hown hts hK hZ hP hS (k_X6_fail had M N (1 : Int32) e_9) gX6_minds_X6_fail rfl (by decide +kernel) (nb_rm (Nat.le_of_ble_eq_true rfl) (Nat.le_of_ble_eq_true rfl)) nb_a0 rfl rfl rfl hl.1 rfl (Nat.le_of_ble_eq_true rfl) dX6_minds_22 (fun H locs hP hS => ?_)
      refine W.eq (g2 := F0 m 25 ls [.int r_9]) rfl ?_
      obtain ⟨rfl, rfl⟩ := nb_e2 h
      exact nb_iret hx hb hr hlk hP hS dX6_minds_25
set_option maxHeartbeats 4000000 in
set_option maxRecDepth 100000 in
theorem k_X6_lend {r : Int32} {M' : nb_M} (had : nb_AD ad b0) (M N : nb_M) (p0 : Int32) (p1 : Int32) (h : f_X6_lend M p0 p1 = some (r, M')) : nb_C l D ad ca b0 yX6_lend wsX6_lend 1 [.ref (ad 0), .int p0, .int p1] M N (some (.int r)) M' N := by
  refine nb_of (cc := cX6_lend) (maxL := 4) (ret := (some .int)) (own := RX6) (by decide +kernel) rfl rfl (Nat.le_of_ble_eq_true rfl) ?_
  intro p e s m args below meth c ls X hP hS hl
  have hl : lv_has ls 4 [(0, .ref (ad 0)), (1, .int p0), (2, .int p1)] := hl
  obtain ⟨hx, hb, hml, hown, hts, hr, hlk, hK, hZ⟩ := id X
  have w_1 := hts (.fieldLink RX6 12 "NineBreakages" "now" "LNineBreakages$House;") (by decide +kernel)
  have in6 : ∀ w ∈ u_ws RX6 TX6 8, w ∈ wsX6_lend := fun w q => List.mem_cons_of_mem _ (List.mem_append_left _ (List.mem_append_right _ q))
  have w_3 := hts (.fieldLink RX6 105 "NineBreakages$House" "owner" "[I") (by decide +kernel)
  have in0 : ∀ w ∈ u_ws RX0 TX0 16, w ∈ wsX6_lend := fun w q => List.mem_cons_of_mem _ (List.mem_append_right _ q)
  unfold f_X6_lend at h
  refine lv_aload_n hx hb dX6_lend_0 rfl (lv_at hl 0 rfl) ?_
  refine va_get (v := .ref (ad 1)) (C := RX6) (T := TX6) (N := 8) hx hb hts in6 hown hK.1 hP 0 nb_a0 rfl 0 (by decide) w_1 (fun _ h9 => h9) rfl dX6_lend_1 ?_
  refine lv_iload_n hx hb dX6_lend_4 rfl (lv_at hl 1 rfl) ?_
  refine nb_callV (n := 1) (As := [.int p0]) (rest := []) hx hb hml hown hts hK hZ hP hS (k_X0_isPiece had M N p0) gX6_lend_X0_isPiece rfl (by decide +kernel) (nb_rm (Nat.le_of_ble_eq_true rfl) (Nat.le_of_ble_eq_true rfl)) nb_a1 rfl rfl rfl hl.1 rfl (Nat.le_of_ble_eq_true rfl) dX6_lend_5 (fun H locs hP hS => ?_)
  refine W.eq (g2 := F0 m 8 ls [.int (f_X0_isPiece M p0)]) rfl ?_
  refine lv_if_eq (tgt := 22) hx hb dX6_lend_8 (by decide) (fun c_2 => ?_) (fun c_2 => ?_)
  · have h := nb_t c_2 h
    refine lv_aload_n hx hb dX6_lend_22 rfl (lv_at hl 0 rfl) ?_
    refine lv_iconst (v := (1 : Int32)) hx hb dX6_lend_23 (by decide) ?_
    obtain ⟨r_3, M_3, e_3, h⟩ := nb_pE h
    refine nb_callV (n := 1) (As := [.int (1 : Int32)]) (rest := []) hx hb hml hown hts hK hZ hP hS (k_X6_fail had M N (1 : Int32) e_3) gX6_lend_X6_fail rfl (by decide +kernel) (nb_rm (Nat.le_of_ble_eq_true rfl) (Nat.le_of_ble_eq_true rfl)) nb_a0 rfl rfl rfl hl.1 rfl (Nat.le_of_ble_eq_true rfl) dX6_lend_24 (fun H locs hP hS => ?_)
    refine W.eq (g2 := F0 m 27 ls [.int r_3]) rfl ?_
    obtain ⟨rfl, rfl⟩ := nb_e2 h
    exact nb_iret hx hb hr hlk hP hS dX6_lend_27
  · have h := nb_f c_2 h
    refine lv_aload_n hx hb dX6_lend_11 rfl (lv_at hl 0 rfl) ?_
    refine va_get (v := .ref (ad 1)) (C := RX6) (T := TX6) (N := 8) hx hb hts in6 hown hK.1 hP 0 nb_a0 rfl 0 (by decide) w_1 (fun _ h9 => h9) rfl dX6_lend_12 ?_
    refine lv_iload_n hx hb dX6_lend_15 rfl (lv_at hl 2 rfl) ?_
    refine nb_callV (n := 1) (As := [.int p1]) (rest := []) hx hb hml hown hts hK hZ hP hS (k_X0_isPerson had M N p1) gX6_lend_X0_isPerson rfl (by decide +kernel) (nb_rm (Nat.le_of_ble_eq_true rfl) (Nat.le_of_ble_eq_true rfl)) nb_a1 rfl rfl rfl hl.1 rfl (Nat.le_of_ble_eq_true rfl) dX6_lend_16 (fun H locs hP hS => ?_)
    refine W.eq (g2 := F0 m 19 ls [.int (f_X0_isPerson M p1)]) rfl ?_
    refine lv_if_ne (tgt := 28) hx hb dX6_lend_19 (by decide) (fun c_5 => ?_) (fun c_5 => ?_)
    · have h := nb_f c_5 h
      refine lv_aload_n hx hb dX6_lend_28 rfl (lv_at hl 0 rfl) ?_
      refine va_get (v := .ref (ad 1)) (C := RX6) (T := TX6) (N := 8) hx hb hts in6 hown hK.1 hP 0 nb_a0 rfl 0 (by decide) w_1 (fun _ h9 => h9) rfl dX6_lend_29 ?_
      refine va_get (v := .ref (ad 7)) (C := RX0) (T := TX0) (N := 16) hx hb hts in0 hown hK.1 hP 1 nb_a1 rfl 9 (by decide) w_3 (fun _ h9 => h9) rfl dX6_lend_32 ?_
      refine lv_iload_n hx hb dX6_lend_35 rfl (lv_at hl 1 rfl) ?_
      obtain ⟨c_6, h⟩ := nb_c h
      refine va_iald hx hb hK.1 hP 7 0 nb_a7 rfl c_6 dX6_lend_36 ?_
      refine lv_topi (fun v_7 e_7 => ?_)
      have h := nb_nA e_7 h
      refine lv_istore_n (lv' := [(3, .int v_7), (0, .ref (ad 0)), (1, .int p0), (2, .int p1)]) hx hb dX6_lend_37 rfl hl (by decide) rfl (fun ls hl => ?_)
      refine lv_aload_n hx hb dX6_lend_38 rfl (lv_at hl 1 rfl) ?_
      refine va_get (v := .ref (ad 1)) (C := RX6) (T := TX6) (N := 8) hx hb hts in6 hown hK.1 hP 0 nb_a0 rfl 0 (by decide) w_1 (fun _ h9 => h9) rfl dX6_lend_39 ?_
      refine va_get (v := .ref (ad 7)) (C := RX0) (T := TX0) (N := 16) hx hb hts in0 hown hK.1 hP 1 nb_a1 rfl 9 (by decide) w_3 (fun _ h9 => h9) rfl dX6_lend_42 ?_
      refine lv_iload_n hx hb dX6_lend_45 rfl (lv_at hl 2 rfl) ?_
      refine lv_iload_n hx hb dX6_lend_46 rfl (lv_at hl 3 rfl) ?_
      refine nb_iast hx hb had hK hP hS nb_a7 c_6 (nb_t7 _ _) dX6_lend_47 (fun H locs hP hS => ?_)
      obtain ⟨M_8, e_8, h⟩ := nb_nE h
      rw [e_8] at hP
      refine lv_iload_n hx hb dX6_lend_48 rfl (lv_at hl 0 rfl) ?_
      obtain ⟨rfl, rfl⟩ := nb_e2 h
      exact nb_iret hx hb hr hlk hP hS dX6_lend_49
    · have h := nb_t c_5 h
      refine lv_aload_n hx hb dX6_lend_22 rfl (lv_at hl 0 rfl) ?_
      refine lv_iconst (v := (1 : Int32)) hx hb dX6_lend_23 (by decide) ?_
      obtain ⟨r_9, M_9, e_9, h⟩ := nb_pE h
      refine nb_callV (n := 1) (As := [.int (1 : Int32)]) (rest := []) hx hb hml hown hts hK hZ hP hS (k_X6_fail had M N (1 : Int32) e_9) gX6_lend_X6_fail rfl (by decide +kernel) (nb_rm (Nat.le_of_ble_eq_true rfl) (Nat.le_of_ble_eq_true rfl)) nb_a0 rfl rfl rfl hl.1 rfl (Nat.le_of_ble_eq_true rfl) dX6_lend_24 (fun H locs hP hS => ?_)
      refine W.eq (g2 := F0 m 27 ls [.int r_9]) rfl ?_
      obtain ⟨rfl, rfl⟩ := nb_e2 h
      exact nb_iret hx hb hr hlk hP hS dX6_lend_27
set_option maxHeartbeats 4000000 in
set_option maxRecDepth 100000 in
theorem k_X6_wall {r : Int32} {M' : nb_M} (had : nb_AD ad b0) (M N : nb_M) (p0 : Int32) (p1 : Int32) (h : f_X6_wall M p0 p1 = some (r, M')) : nb_C l D ad ca b0 yX6_wall wsX6_wall 1 [.ref (ad 0), .int p0, .int p1] M N (some (.int r)) M' N := by
  refine nb_of (cc := cX6_wall) (maxL := 4) (ret := (some .int)) (own := RX6) (by decide +kernel) rfl rfl (Nat.le_of_ble_eq_true rfl) ?_
  intro p e s m args below meth c ls X hP hS hl
  have hl : lv_has ls 4 [(0, .ref (ad 0)), (1, .int p0), (2, .int p1)] := hl
  obtain ⟨hx, hb, hml, hown, hts, hr, hlk, hK, hZ⟩ := id X
  have w_1 := hts (.fieldLink RX6 12 "NineBreakages" "now" "LNineBreakages$House;") (by decide +kernel)
  have in6 : ∀ w ∈ u_ws RX6 TX6 8, w ∈ wsX6_wall := fun w q => List.mem_cons_of_mem _ (List.mem_append_left _ (List.mem_append_right _ q))
  have w_3 := hts (.fieldLink RX6 108 "NineBreakages$House" "state" "[I") (by decide +kernel)
  have in0 : ∀ w ∈ u_ws RX0 TX0 16, w ∈ wsX6_wall := fun w q => List.mem_cons_of_mem _ (List.mem_append_right _ q)
  unfold f_X6_wall at h
  refine lv_aload_n hx hb dX6_wall_0 rfl (lv_at hl 0 rfl) ?_
  refine va_get (v := .ref (ad 1)) (C := RX6) (T := TX6) (N := 8) hx hb hts in6 hown hK.1 hP 0 nb_a0 rfl 0 (by decide) w_1 (fun _ h9 => h9) rfl dX6_wall_1 ?_
  refine lv_iload_n hx hb dX6_wall_4 rfl (lv_at hl 1 rfl) ?_
  refine nb_callV (n := 1) (As := [.int p0]) (rest := []) hx hb hml hown hts hK hZ hP hS (k_X0_isPiece had M N p0) gX6_wall_X0_isPiece rfl (by decide +kernel) (nb_rm (Nat.le_of_ble_eq_true rfl) (Nat.le_of_ble_eq_true rfl)) nb_a1 rfl rfl rfl hl.1 rfl (Nat.le_of_ble_eq_true rfl) dX6_wall_5 (fun H locs hP hS => ?_)
  refine W.eq (g2 := F0 m 8 ls [.int (f_X0_isPiece M p0)]) rfl ?_
  refine lv_if_eq (tgt := 19) hx hb dX6_wall_8 (by decide) (fun c_2 => ?_) (fun c_2 => ?_)
  · have h := nb_t c_2 h
    refine lv_aload_n hx hb dX6_wall_19 rfl (lv_at hl 0 rfl) ?_
    refine lv_iconst (v := (1 : Int32)) hx hb dX6_wall_20 (by decide) ?_
    obtain ⟨r_3, M_3, e_3, h⟩ := nb_pE h
    refine nb_callV (n := 1) (As := [.int (1 : Int32)]) (rest := []) hx hb hml hown hts hK hZ hP hS (k_X6_fail had M N (1 : Int32) e_3) gX6_wall_X6_fail rfl (by decide +kernel) (nb_rm (Nat.le_of_ble_eq_true rfl) (Nat.le_of_ble_eq_true rfl)) nb_a0 rfl rfl rfl hl.1 rfl (Nat.le_of_ble_eq_true rfl) dX6_wall_21 (fun H locs hP hS => ?_)
    refine W.eq (g2 := F0 m 24 ls [.int r_3]) rfl ?_
    obtain ⟨rfl, rfl⟩ := nb_e2 h
    exact nb_iret hx hb hr hlk hP hS dX6_wall_24
  · have h := nb_f c_2 h
    refine lv_iload_n hx hb dX6_wall_11 rfl (lv_at hl 2 rfl) ?_
    refine lv_iconst (v := (1 : Int32)) hx hb dX6_wall_12 (by decide) ?_
    refine nb_callS (n := 2) (As := [.int p1, .int (1 : Int32)]) (rest := []) hx hb hml hown hts hK hZ hP hS (k_X6_within had M N p1 (1 : Int32)) gX6_wall_X6_within rfl (by decide +kernel) (nb_rm (Nat.le_of_ble_eq_true rfl) (Nat.le_of_ble_eq_true rfl)) rfl hl.1 rfl (Nat.le_of_ble_eq_true rfl) dX6_wall_13 (fun H locs hP hS => ?_)
    refine W.eq (g2 := F0 m 16 ls [.int (f_X6_within p1 (1 : Int32))]) rfl ?_
    refine lv_if_ne (tgt := 25) hx hb dX6_wall_16 (by decide) (fun c_5 => ?_) (fun c_5 => ?_)
    · have h := nb_f c_5 h
      refine lv_aload_n hx hb dX6_wall_25 rfl (lv_at hl 0 rfl) ?_
      refine va_get (v := .ref (ad 1)) (C := RX6) (T := TX6) (N := 8) hx hb hts in6 hown hK.1 hP 0 nb_a0 rfl 0 (by decide) w_1 (fun _ h9 => h9) rfl dX6_wall_26 ?_
      refine va_get (v := .ref (ad 8)) (C := RX0) (T := TX0) (N := 16) hx hb hts in0 hown hK.1 hP 1 nb_a1 rfl 10 (by decide) w_3 (fun _ h9 => h9) rfl dX6_wall_29 ?_
      refine lv_iload_n hx hb dX6_wall_32 rfl (lv_at hl 1 rfl) ?_
      obtain ⟨c_6, h⟩ := nb_c h
      refine va_iald hx hb hK.1 hP 8 0 nb_a8 rfl c_6 dX6_wall_33 ?_
      refine lv_topi (fun v_7 e_7 => ?_)
      have h := nb_nA e_7 h
      refine lv_istore_n (lv' := [(3, .int v_7), (0, .ref (ad 0)), (1, .int p0), (2, .int p1)]) hx hb dX6_wall_34 rfl hl (by decide) rfl (fun ls hl => ?_)
      refine lv_iload_n hx hb dX6_wall_35 rfl (lv_at hl 0 rfl) ?_
      refine lv_iconst (v := (1 : Int32)) hx hb dX6_wall_36 (by decide) ?_
      refine lv_icmp_ne (tgt := 46) hx hb dX6_wall_37 (by decide) (fun c_8 => ?_) (fun c_8 => ?_)
      · have h := nb_f c_8 h
        refine lv_aload_n hx hb dX6_wall_46 rfl (lv_at hl 1 rfl) ?_
        refine va_get (v := .ref (ad 1)) (C := RX6) (T := TX6) (N := 8) hx hb hts in6 hown hK.1 hP 0 nb_a0 rfl 0 (by decide) w_1 (fun _ h9 => h9) rfl dX6_wall_47 ?_
        refine va_get (v := .ref (ad 8)) (C := RX0) (T := TX0) (N := 16) hx hb hts in0 hown hK.1 hP 1 nb_a1 rfl 10 (by decide) w_3 (fun _ h9 => h9) rfl dX6_wall_50 ?_
        refine lv_iload_n hx hb dX6_wall_53 rfl (lv_at hl 2 rfl) ?_
        refine lv_iload_n hx hb dX6_wall_54 rfl (lv_at hl 3 rfl) ?_
        refine lv_iconst (v := (1 : Int32)) hx hb dX6_wall_55 (by decide) ?_
        refine lv_icmp_ne (tgt := 63) hx hb dX6_wall_56 (by decide) (fun c_9 => ?_) (fun c_9 => ?_)
        · have h := nb_f c_9 h
          refine lv_iconst (v := (0 : Int32)) hx hb dX6_wall_63 (by decide) ?_
          refine nb_iast hx hb had hK hP hS nb_a8 c_6 (nb_t8 _ _) dX6_wall_64 (fun H locs hP hS => ?_)
          obtain ⟨M_10, e_10, h⟩ := nb_nE h
          rw [e_10] at hP
          refine lv_iload_n hx hb dX6_wall_65 rfl (lv_at hl 0 rfl) ?_
          refine lv_iconst (v := (2 : Int32)) hx hb dX6_wall_66 (by decide) ?_
          refine lv_icmp_ne (tgt := 74) hx hb dX6_wall_67 (by decide) (fun c_11 => ?_) (fun c_11 => ?_)
          · have h := nb_f c_11 h
            refine lv_iconst (v := (0 : Int32)) hx hb dX6_wall_74 (by decide) ?_
            refine nb_callS (n := 1) (As := [.int (0 : Int32)]) (rest := []) hx hb hml hown hts hK hZ hP hS (k_X6_bit had M_10 N (0 : Int32)) gX6_wall_X6_bit rfl (by decide +kernel) (nb_rm (Nat.le_of_ble_eq_true rfl) (Nat.le_of_ble_eq_true rfl)) rfl hl.1 rfl (Nat.le_of_ble_eq_true rfl) dX6_wall_75 (fun H locs hP hS => ?_)
            refine W.eq (g2 := F0 m 78 ls [.int (f_X6_bit (0 : Int32))]) rfl ?_
            obtain ⟨rfl, rfl⟩ := nb_e2 h
            exact nb_iret hx hb hr hlk hP hS dX6_wall_78
          · have h := nb_t c_11 h
            refine lv_iconst (v := (1 : Int32)) hx hb dX6_wall_70 (by decide) ?_
            refine lv_goto (tgt := 75) hx hb dX6_wall_71 (by decide) ?_
            refine nb_callS (n := 1) (As := [.int (1 : Int32)]) (rest := []) hx hb hml hown hts hK hZ hP hS (k_X6_bit had M_10 N (1 : Int32)) gX6_wall_X6_bit rfl (by decide +kernel) (nb_rm (Nat.le_of_ble_eq_true rfl) (Nat.le_of_ble_eq_true rfl)) rfl hl.1 rfl (Nat.le_of_ble_eq_true rfl) dX6_wall_75 (fun H locs hP hS => ?_)
            refine W.eq (g2 := F0 m 78 ls [.int (f_X6_bit (1 : Int32))]) rfl ?_
            obtain ⟨rfl, rfl⟩ := nb_e2 h
            exact nb_iret hx hb hr hlk hP hS dX6_wall_78
        · have h := nb_t c_9 h
          refine lv_iconst (v := (2 : Int32)) hx hb dX6_wall_59 (by decide) ?_
          refine lv_goto (tgt := 64) hx hb dX6_wall_60 (by decide) ?_
          refine nb_iast hx hb had hK hP hS nb_a8 c_6 (nb_t8 _ _) dX6_wall_64 (fun H locs hP hS => ?_)
          obtain ⟨M_14, e_14, h⟩ := nb_nE h
          rw [e_14] at hP
          refine lv_iload_n hx hb dX6_wall_65 rfl (lv_at hl 0 rfl) ?_
          refine lv_iconst (v := (2 : Int32)) hx hb dX6_wall_66 (by decide) ?_
          refine lv_icmp_ne (tgt := 74) hx hb dX6_wall_67 (by decide) (fun c_15 => ?_) (fun c_15 => ?_)
          · have h := nb_f c_15 h
            refine lv_iconst (v := (0 : Int32)) hx hb dX6_wall_74 (by decide) ?_
            refine nb_callS (n := 1) (As := [.int (0 : Int32)]) (rest := []) hx hb hml hown hts hK hZ hP hS (k_X6_bit had M_14 N (0 : Int32)) gX6_wall_X6_bit rfl (by decide +kernel) (nb_rm (Nat.le_of_ble_eq_true rfl) (Nat.le_of_ble_eq_true rfl)) rfl hl.1 rfl (Nat.le_of_ble_eq_true rfl) dX6_wall_75 (fun H locs hP hS => ?_)
            refine W.eq (g2 := F0 m 78 ls [.int (f_X6_bit (0 : Int32))]) rfl ?_
            obtain ⟨rfl, rfl⟩ := nb_e2 h
            exact nb_iret hx hb hr hlk hP hS dX6_wall_78
          · have h := nb_t c_15 h
            refine lv_iconst (v := (1 : Int32)) hx hb dX6_wall_70 (by decide) ?_
            refine lv_goto (tgt := 75) hx hb dX6_wall_71 (by decide) ?_
            refine nb_callS (n := 1) (As := [.int (1 : Int32)]) (rest := []) hx hb hml hown hts hK hZ hP hS (k_X6_bit had M_14 N (1 : Int32)) gX6_wall_X6_bit rfl (by decide +kernel) (nb_rm (Nat.le_of_ble_eq_true rfl) (Nat.le_of_ble_eq_true rfl)) rfl hl.1 rfl (Nat.le_of_ble_eq_true rfl) dX6_wall_75 (fun H locs hP hS => ?_)
            refine W.eq (g2 := F0 m 78 ls [.int (f_X6_bit (1 : Int32))]) rfl ?_
            obtain ⟨rfl, rfl⟩ := nb_e2 h
            exact nb_iret hx hb hr hlk hP hS dX6_wall_78
      · have h := nb_t c_8 h
        refine lv_aload_n hx hb dX6_wall_40 rfl (lv_at hl 1 rfl) ?_
        refine lv_iconst (v := (3 : Int32)) hx hb dX6_wall_41 (by decide) ?_
        obtain ⟨r_18, M_18, e_18, h⟩ := nb_pE h
        refine nb_callV (n := 1) (As := [.int (3 : Int32)]) (rest := []) hx hb hml hown hts hK hZ hP hS (k_X6_fail had M N (3 : Int32) e_18) gX6_wall_X6_fail rfl (by decide +kernel) (nb_rm (Nat.le_of_ble_eq_true rfl) (Nat.le_of_ble_eq_true rfl)) nb_a0 rfl rfl rfl hl.1 rfl (Nat.le_of_ble_eq_true rfl) dX6_wall_42 (fun H locs hP hS => ?_)
        refine W.eq (g2 := F0 m 45 ls [.int r_18]) rfl ?_
        obtain ⟨rfl, rfl⟩ := nb_e2 h
        exact nb_iret hx hb hr hlk hP hS dX6_wall_45
    · have h := nb_t c_5 h
      refine lv_aload_n hx hb dX6_wall_19 rfl (lv_at hl 0 rfl) ?_
      refine lv_iconst (v := (1 : Int32)) hx hb dX6_wall_20 (by decide) ?_
      obtain ⟨r_19, M_19, e_19, h⟩ := nb_pE h
      refine nb_callV (n := 1) (As := [.int (1 : Int32)]) (rest := []) hx hb hml hown hts hK hZ hP hS (k_X6_fail had M N (1 : Int32) e_19) gX6_wall_X6_fail rfl (by decide +kernel) (nb_rm (Nat.le_of_ble_eq_true rfl) (Nat.le_of_ble_eq_true rfl)) nb_a0 rfl rfl rfl hl.1 rfl (Nat.le_of_ble_eq_true rfl) dX6_wall_21 (fun H locs hP hS => ?_)
      refine W.eq (g2 := F0 m 24 ls [.int r_19]) rfl ?_
      obtain ⟨rfl, rfl⟩ := nb_e2 h
      exact nb_iret hx hb hr hlk hP hS dX6_wall_24
set_option maxHeartbeats 4000000 in
set_option maxRecDepth 100000 in
theorem k_X6_risk {r : Int32} {M' : nb_M} (had : nb_AD ad b0) (M N : nb_M) (p0 : Int32) (p1 : Int32) (h : f_X6_risk M p0 p1 = some (r, M')) : nb_C l D ad ca b0 yX6_risk wsX6_risk 5 [.ref (ad 0), .int p0, .int p1] M N (some (.int r)) M' N := by
  refine nb_of (cc := cX6_risk) (maxL := 3) (ret := (some .int)) (own := RX6) (by decide +kernel) rfl rfl (Nat.le_of_ble_eq_true rfl) ?_
  intro p e s m args below meth c ls X hP hS hl
  have hl : lv_has ls 3 [(0, .ref (ad 0)), (1, .int p0), (2, .int p1)] := hl
  obtain ⟨hx, hb, hml, hown, hts, hr, hlk, hK, hZ⟩ := id X
  have w_1 := hts (.fieldLink RX6 12 "NineBreakages" "now" "LNineBreakages$House;") (by decide +kernel)
  have in6 : ∀ w ∈ u_ws RX6 TX6 8, w ∈ wsX6_risk := fun w q => List.mem_cons_of_mem _ (List.mem_append_left _ (List.mem_append_left _ (List.mem_append_right _ q)))
  unfold f_X6_risk at h
  refine lv_aload_n hx hb dX6_risk_0 rfl (lv_at hl 0 rfl) ?_
  refine va_get (v := .ref (ad 1)) (C := RX6) (T := TX6) (N := 8) hx hb hts in6 hown hK.1 hP 0 nb_a0 rfl 0 (by decide) w_1 (fun _ h9 => h9) rfl dX6_risk_1 ?_
  refine lv_iload_n hx hb dX6_risk_4 rfl (lv_at hl 1 rfl) ?_
  refine nb_callV (n := 1) (As := [.int p0]) (rest := []) hx hb hml hown hts hK hZ hP hS (k_X0_isPiece had M N p0) gX6_risk_X0_isPiece rfl (by decide +kernel) (nb_rm (Nat.le_of_ble_eq_true rfl) (Nat.le_of_ble_eq_true rfl)) nb_a1 rfl rfl rfl hl.1 rfl (Nat.le_of_ble_eq_true rfl) dX6_risk_5 (fun H locs hP hS => ?_)
  refine W.eq (g2 := F0 m 8 ls [.int (f_X0_isPiece M p0)]) rfl ?_
  refine lv_if_eq (tgt := 22) hx hb dX6_risk_8 (by decide) (fun c_2 => ?_) (fun c_2 => ?_)
  · have h := nb_t c_2 h
    refine lv_aload_n hx hb dX6_risk_22 rfl (lv_at hl 0 rfl) ?_
    refine lv_iconst (v := (1 : Int32)) hx hb dX6_risk_23 (by decide) ?_
    obtain ⟨r_3, M_3, e_3, h⟩ := nb_pE h
    refine nb_callV (n := 1) (As := [.int (1 : Int32)]) (rest := []) hx hb hml hown hts hK hZ hP hS (k_X6_fail had M N (1 : Int32) e_3) gX6_risk_X6_fail rfl (by decide +kernel) (nb_rm (Nat.le_of_ble_eq_true rfl) (Nat.le_of_ble_eq_true rfl)) nb_a0 rfl rfl rfl hl.1 rfl (Nat.le_of_ble_eq_true rfl) dX6_risk_24 (fun H locs hP hS => ?_)
    refine W.eq (g2 := F0 m 27 ls [.int r_3]) rfl ?_
    obtain ⟨rfl, rfl⟩ := nb_e2 h
    exact nb_iret hx hb hr hlk hP hS dX6_risk_27
  · have h := nb_f c_2 h
    refine lv_aload_n hx hb dX6_risk_11 rfl (lv_at hl 0 rfl) ?_
    refine va_get (v := .ref (ad 1)) (C := RX6) (T := TX6) (N := 8) hx hb hts in6 hown hK.1 hP 0 nb_a0 rfl 0 (by decide) w_1 (fun _ h9 => h9) rfl dX6_risk_12 ?_
    refine lv_iload_n hx hb dX6_risk_15 rfl (lv_at hl 2 rfl) ?_
    refine nb_callV (n := 1) (As := [.int p1]) (rest := []) hx hb hml hown hts hK hZ hP hS (k_X0_isPerson had M N p1) gX6_risk_X0_isPerson rfl (by decide +kernel) (nb_rm (Nat.le_of_ble_eq_true rfl) (Nat.le_of_ble_eq_true rfl)) nb_a1 rfl rfl rfl hl.1 rfl (Nat.le_of_ble_eq_true rfl) dX6_risk_16 (fun H locs hP hS => ?_)
    refine W.eq (g2 := F0 m 19 ls [.int (f_X0_isPerson M p1)]) rfl ?_
    refine lv_if_ne (tgt := 28) hx hb dX6_risk_19 (by decide) (fun c_5 => ?_) (fun c_5 => ?_)
    · have h := nb_f c_5 h
      refine lv_aload_n hx hb dX6_risk_28 rfl (lv_at hl 0 rfl) ?_
      refine va_get (v := .ref (ad 1)) (C := RX6) (T := TX6) (N := 8) hx hb hts in6 hown hK.1 hP 0 nb_a0 rfl 0 (by decide) w_1 (fun _ h9 => h9) rfl dX6_risk_29 ?_
      refine lv_iload_n hx hb dX6_risk_32 rfl (lv_at hl 1 rfl) ?_
      refine lv_iload_n hx hb dX6_risk_33 rfl (lv_at hl 2 rfl) ?_
      obtain ⟨r_6, M_6, e_6, h⟩ := nb_pE h
      refine nb_callV (n := 2) (As := [.int p0, .int p1]) (rest := []) hx hb hml hown hts hK hZ hP hS (k_X0_riskIn had M N p0 p1 e_6) gX6_risk_X0_riskIn rfl (by decide +kernel) (nb_rm (Nat.le_of_ble_eq_true rfl) (Nat.le_of_ble_eq_true rfl)) nb_a1 rfl rfl rfl hl.1 rfl (Nat.le_of_ble_eq_true rfl) dX6_risk_34 (fun H locs hP hS => ?_)
      refine W.eq (g2 := F0 m 37 ls [.int r_6]) rfl ?_
      obtain ⟨rfl, rfl⟩ := nb_e2 h
      exact nb_iret hx hb hr hlk hP hS dX6_risk_37
    · have h := nb_t c_5 h
      refine lv_aload_n hx hb dX6_risk_22 rfl (lv_at hl 0 rfl) ?_
      refine lv_iconst (v := (1 : Int32)) hx hb dX6_risk_23 (by decide) ?_
      obtain ⟨r_7, M_7, e_7, h⟩ := nb_pE h
      refine nb_callV (n := 1) (As := [.int (1 : Int32)]) (rest := []) hx hb hml hown hts hK hZ hP hS (k_X6_fail had M N (1 : Int32) e_7) gX6_risk_X6_fail rfl (by decide +kernel) (nb_rm (Nat.le_of_ble_eq_true rfl) (Nat.le_of_ble_eq_true rfl)) nb_a0 rfl rfl rfl hl.1 rfl (Nat.le_of_ble_eq_true rfl) dX6_risk_24 (fun H locs hP hS => ?_)
      refine W.eq (g2 := F0 m 27 ls [.int r_7]) rfl ?_
      obtain ⟨rfl, rfl⟩ := nb_e2 h
      exact nb_iret hx hb hr hlk hP hS dX6_risk_27
set_option maxHeartbeats 4000000 in
set_option maxRecDepth 100000 in
theorem k_X0_breakPiece {r : Int32} {M' : nb_M} (had : nb_AD ad b0) (M N : nb_M) (p0 : Int32) (h : f_X0_breakPiece M p0 = some (r, M')) : nb_C l D ad ca b0 yX0_breakPiece wsX0_breakPiece 3 [.ref (ad 1), .int p0] M N (some (.int r)) M' N := by
  refine nb_of (cc := cX0_breakPiece) (maxL := 4) (ret := (some .boolean)) (own := RX0) (by decide +kernel) rfl rfl (Nat.le_of_ble_eq_true rfl) ?_
  intro p e s m args below meth c ls X hP hS hl
  have hl : lv_has ls 4 [(0, .ref (ad 1)), (1, .int p0)] := hl
  obtain ⟨hx, hb, hml, hown, hts, hr, hlk, hK, hZ⟩ := id X
  have w_1 := hts (.fieldLink RX0 50 "NineBreakages$House" "day" "I") (by decide +kernel)
  have in0 : ∀ w ∈ u_ws RX0 TX0 16, w ∈ wsX0_breakPiece := fun w q => List.mem_cons_of_mem _ (List.mem_append_right _ q)
  have w_3 := hts (.fieldLink RX0 31 "NineBreakages$House" "owner" "[I") (by decide +kernel)
  have w_4 := hts (.fieldLink RX0 34 "NineBreakages$House" "state" "[I") (by decide +kernel)
  have w_5 := hts (.fieldLink RX0 22 "NineBreakages$House" "had" "[I") (by decide +kernel)
  unfold f_X0_breakPiece at h
  refine lv_aload_n hx hb dX0_breakPiece_0 rfl (lv_at hl 0 rfl) ?_
  refine lv_iload_n hx hb dX0_breakPiece_1 rfl (lv_at hl 1 rfl) ?_
  refine lv_aload_n hx hb dX0_breakPiece_2 rfl (lv_at hl 0 rfl) ?_
  refine va_get (v := .int (M.1 1 0)) (C := RX0) (T := TX0) (N := 16) hx hb hts in0 hown hK.1 hP 1 nb_a1 rfl 0 (by decide) w_1 (fun _ h9 => h9) rfl dX0_breakPiece_3 ?_
  obtain ⟨r_1, e_1, h⟩ := nb_oE h
  refine nb_callV (n := 2) (As := [.int p0, .int (M.1 1 0)]) (rest := []) hx hb hml hown hts hK hZ hP hS (k_X0_countsOn had M N p0 (M.1 1 0) e_1) gX0_breakPiece_X0_countsOn rfl (by decide +kernel) (nb_rm (Nat.le_of_ble_eq_true rfl) (Nat.le_of_ble_eq_true rfl)) nb_a1 rfl rfl rfl hl.1 rfl (Nat.le_of_ble_eq_true rfl) dX0_breakPiece_6 (fun H locs hP hS => ?_)
  refine W.eq (g2 := F0 m 9 ls [.int r_1]) rfl ?_
  refine lv_istore_n (lv' := [(2, .int r_1), (0, .ref (ad 1)), (1, .int p0)]) hx hb dX0_breakPiece_9 rfl hl (by decide) rfl (fun ls hl => ?_)
  refine lv_aload_n hx hb dX0_breakPiece_10 rfl (lv_at hl 1 rfl) ?_
  refine va_get (v := .ref (ad 7)) (C := RX0) (T := TX0) (N := 16) hx hb hts in0 hown hK.1 hP 1 nb_a1 rfl 9 (by decide) w_3 (fun _ h9 => h9) rfl dX0_breakPiece_11 ?_
  refine lv_iload_n hx hb dX0_breakPiece_14 rfl (lv_at hl 2 rfl) ?_
  obtain ⟨c_2, h⟩ := nb_c h
  refine va_iald hx hb hK.1 hP 7 0 nb_a7 rfl c_2 dX0_breakPiece_15 ?_
  refine lv_topi (fun v_3 e_3 => ?_)
  have h := nb_nA e_3 h
  refine lv_istore_n (lv' := [(3, .int v_3), (2, .int r_1), (0, .ref (ad 1)), (1, .int p0)]) hx hb dX0_breakPiece_16 rfl hl (by decide) rfl (fun ls hl => ?_)
  refine lv_iload_n hx hb dX0_breakPiece_17 rfl (lv_at hl 1 rfl) ?_
  refine lv_if_eq (tgt := 43) hx hb dX0_breakPiece_18 (by decide) (fun c_4 => ?_) (fun c_4 => ?_)
  · have h := nb_t c_4 h
    refine lv_aload_n hx hb dX0_breakPiece_43 rfl (lv_at hl 2 rfl) ?_
    refine va_get (v := .ref (ad 8)) (C := RX0) (T := TX0) (N := 16) hx hb hts in0 hown hK.1 hP 1 nb_a1 rfl 10 (by decide) w_4 (fun _ h9 => h9) rfl dX0_breakPiece_44 ?_
    refine lv_iload_n hx hb dX0_breakPiece_47 rfl (lv_at hl 3 rfl) ?_
    refine lv_iconst (v := (1 : Int32)) hx hb dX0_breakPiece_48 (by decide) ?_
    refine nb_iast hx hb had hK hP hS nb_a8 c_2 (nb_t8 _ _) dX0_breakPiece_49 (fun H locs hP hS => ?_)
    obtain ⟨M_5, e_5, h⟩ := nb_nE h
    rw [e_5] at hP
    refine lv_iload_n hx hb dX0_breakPiece_50 rfl (lv_at hl 1 rfl) ?_
    obtain ⟨c_6, h⟩ := nb_c h
    obtain ⟨rfl, rfl⟩ := nb_e2 h
    exact nb_zret (Decidable.not_not.mp c_6) hx hb hr hlk hP hS dX0_breakPiece_51
  · have h := nb_f c_4 h
    refine lv_aload_n hx hb dX0_breakPiece_21 rfl (lv_at hl 2 rfl) ?_
    refine va_get (v := .ref (ad 4)) (C := RX0) (T := TX0) (N := 16) hx hb hts in0 hown hK.1 hP 1 nb_a1 rfl 5 (by decide) w_5 (fun _ h9 => h9) rfl dX0_breakPiece_22 ?_
    refine lv_iload_n hx hb dX0_breakPiece_25 rfl (lv_at hl 0 rfl) ?_
    obtain ⟨c_7, h⟩ := nb_c h
    refine va_iald hx hb hK.1 hP 4 0 nb_a4 rfl c_7 dX0_breakPiece_26 ?_
    refine lv_sipush (v := (9999 : Int32)) hx hb dX0_breakPiece_27 (by decide) ?_
    refine lv_icmp_ge (tgt := 43) hx hb dX0_breakPiece_30 (by decide) (fun c_8 => ?_) (fun c_8 => ?_)
    · have h := nb_t c_8 h
      refine lv_aload_n hx hb dX0_breakPiece_43 rfl (lv_at hl 2 rfl) ?_
      refine va_get (v := .ref (ad 8)) (C := RX0) (T := TX0) (N := 16) hx hb hts in0 hown hK.1 hP 1 nb_a1 rfl 10 (by decide) w_4 (fun _ h9 => h9) rfl dX0_breakPiece_44 ?_
      refine lv_iload_n hx hb dX0_breakPiece_47 rfl (lv_at hl 3 rfl) ?_
      refine lv_iconst (v := (1 : Int32)) hx hb dX0_breakPiece_48 (by decide) ?_
      refine nb_iast hx hb had hK hP hS nb_a8 c_2 (nb_t8 _ _) dX0_breakPiece_49 (fun H locs hP hS => ?_)
      obtain ⟨M_9, e_9, h⟩ := nb_nE h
      rw [e_9] at hP
      refine lv_iload_n hx hb dX0_breakPiece_50 rfl (lv_at hl 1 rfl) ?_
      obtain ⟨c_10, h⟩ := nb_c h
      obtain ⟨rfl, rfl⟩ := nb_e2 h
      exact nb_zret (Decidable.not_not.mp c_10) hx hb hr hlk hP hS dX0_breakPiece_51
    · have h := nb_f c_8 h
      refine lv_aload_n hx hb dX0_breakPiece_33 rfl (lv_at hl 2 rfl) ?_
      refine va_get (v := .ref (ad 4)) (C := RX0) (T := TX0) (N := 16) hx hb hts in0 hown hK.1 hP 1 nb_a1 rfl 5 (by decide) w_5 (fun _ h9 => h9) rfl dX0_breakPiece_34 ?_
      refine lv_iload_n hx hb dX0_breakPiece_37 rfl (lv_at hl 0 rfl) ?_
      refine lv_dup2_11 hx hb dX0_breakPiece_38 rfl rfl ?_
      refine va_iald hx hb hK.1 hP 4 0 nb_a4 rfl c_7 dX0_breakPiece_39 ?_
      refine lv_iconst (v := (1 : Int32)) hx hb dX0_breakPiece_40 (by decide) ?_
      refine lv_iadd hx hb dX0_breakPiece_41 ?_
      refine nb_iast hx hb had hK hP hS nb_a4 c_7 (nb_t4 _ _) dX0_breakPiece_42 (fun H locs hP hS => ?_)
      obtain ⟨M_11, e_11, h⟩ := nb_nE h
      rw [e_11] at hP
      refine lv_aload_n hx hb dX0_breakPiece_43 rfl (lv_at hl 2 rfl) ?_
      refine va_get (v := .ref (ad 8)) (C := RX0) (T := TX0) (N := 16) hx hb hts in0 hown hK.1 hP 1 nb_a1 rfl 10 (by decide) w_4 (fun _ h9 => h9) rfl dX0_breakPiece_44 ?_
      refine lv_iload_n hx hb dX0_breakPiece_47 rfl (lv_at hl 3 rfl) ?_
      refine lv_iconst (v := (1 : Int32)) hx hb dX0_breakPiece_48 (by decide) ?_
      refine nb_iast hx hb had hK hP hS nb_a8 c_2 (nb_t8 _ _) dX0_breakPiece_49 (fun H locs hP hS => ?_)
      obtain ⟨M_12, e_12, h⟩ := nb_nE h
      rw [e_12] at hP
      refine lv_iload_n hx hb dX0_breakPiece_50 rfl (lv_at hl 1 rfl) ?_
      obtain ⟨c_13, h⟩ := nb_c h
      obtain ⟨rfl, rfl⟩ := nb_e2 h
      exact nb_zret (Decidable.not_not.mp c_13) hx hb hr hlk hP hS dX0_breakPiece_51
end GEN
