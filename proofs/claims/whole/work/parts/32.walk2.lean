section GEN
variable {p : Program} {l : Launch} {e : Env} {s : State} {m : MethodId} {args : Array Value} {below : List Frame} {meth : Method} {c : Code} {D : va_G} {ad : Nat → Nat} {ca : Nat → ClassId} {b0 : Nat}
set_option maxHeartbeats 4000000 in
set_option maxRecDepth 100000 in
theorem k_X4_safestFor {r : Int32} {M' : nb_M} (had : nb_AD ad b0) (M N : nb_M) (p0 : Int32) (h : f_X4_safestFor M p0 = some (r, M')) : nb_C l D ad ca b0 yX4_safestFor wsX4_safestFor 4 [.ref (ad 38), .ref (ad 1), .int p0] M N (some (.int r)) M' N := by
  refine nb_of (cc := cX4_safestFor) (maxL := 7) (ret := (some .int)) (own := RX4) (by decide +kernel) rfl rfl (Nat.le_of_ble_eq_true rfl) ?_
  intro p e s m args below meth c ls X hP hS hl
  have hl : lv_has ls 7 [(0, .ref (ad 38)), (1, .ref (ad 1)), (2, .int p0)] := hl
  obtain ⟨hx, hb, hml, hown, hts, hr, hlk, hK, hZ⟩ := id X
  have w_1 := hts (.fieldLink RX4 51 "NineBreakages$House" "care" "[I") (by decide +kernel)
  have in0 : ∀ w ∈ u_ws RX0 TX0 16, w ∈ wsX4_safestFor := fun w q => List.mem_cons_of_mem _ (List.mem_append_left _ (List.mem_append_right _ q))
  unfold f_X4_safestFor at h
  refine lv_iconst (v := (0 : Int32)) hx hb dX4_safestFor_0 (by decide) ?_
  refine lv_istore_n (lv' := [(3, .int (0 : Int32)), (0, .ref (ad 38)), (1, .ref (ad 1)), (2, .int p0)]) hx hb dX4_safestFor_1 rfl hl (by decide) rfl (fun ls hl => ?_)
  refine lv_aload_n hx hb dX4_safestFor_2 rfl (lv_at hl 2 rfl) ?_
  refine lv_iload_n hx hb dX4_safestFor_3 rfl (lv_at hl 3 rfl) ?_
  refine lv_aload_n hx hb dX4_safestFor_4 rfl (lv_at hl 2 rfl) ?_
  refine va_get (v := .ref (ad 2)) (C := RX0) (T := TX0) (N := 16) hx hb hts in0 hown hK.1 hP 1 nb_a1 rfl 3 (by decide) w_1 (fun _ h9 => h9) rfl dX4_safestFor_5 ?_
  refine lv_iconst (v := (0 : Int32)) hx hb dX4_safestFor_8 (by decide) ?_
  refine va_iald hx hb hK.1 hP 2 0 nb_a2 rfl (nb_lit rfl) dX4_safestFor_9 ?_
  obtain ⟨r_1, M_1, e_1, h⟩ := nb_pE h
  refine nb_callV (n := 2) (As := [.int p0, .int (M.1 2 (0 : Int32).toNatClampNeg)]) (rest := []) hx hb hml hown hts hK hZ hP hS (k_X0_riskBy had M N p0 (M.1 2 (0 : Int32).toNatClampNeg) e_1) gX4_safestFor_X0_riskBy rfl (by decide +kernel) (nb_rm (Nat.le_of_ble_eq_true rfl) (Nat.le_of_ble_eq_true rfl)) nb_a1 rfl rfl rfl hl.1 rfl (Nat.le_of_ble_eq_true rfl) dX4_safestFor_10 (fun H locs hP hS => ?_)
  refine W.eq (g2 := F0 m 13 ls [.int r_1]) rfl ?_
  refine lv_istore (lv' := [(4, .int r_1), (3, .int (0 : Int32)), (0, .ref (ad 38)), (1, .ref (ad 1)), (2, .int p0)]) hx hb dX4_safestFor_13 hl (by decide) rfl (fun ls hl => ?_)
  refine lv_iconst (v := (1 : Int32)) hx hb dX4_safestFor_15 (by decide) ?_
  refine lv_istore (lv' := [(5, .int (1 : Int32)), (4, .int r_1), (3, .int (0 : Int32)), (0, .ref (ad 38)), (1, .ref (ad 1)), (2, .int p0)]) hx hb dX4_safestFor_16 hl (by decide) rfl (fun ls hl => ?_)
  exact w_X4_safestFor_18 had X nb_F _ _ _ _ _ h _ _ hP hS _ (lv_sub hl [4, 5, 2, 1, 0] rfl)
set_option maxHeartbeats 4000000 in
set_option maxRecDepth 100000 in
theorem k_X6_safest {r : Int32} {M' : nb_M} (had : nb_AD ad b0) (M N : nb_M) (p0 : Int32) (p1 : Int32) (h : f_X6_safest M p0 p1 = some (r, M')) : nb_C l D ad ca b0 yX6_safest wsX6_safest 5 [.ref (ad 0), .int p0, .int p1] M N (some (.int r)) M' N := by
  refine nb_of (cc := cX6_safest) (maxL := 4) (ret := (some .int)) (own := RX6) (by decide +kernel) rfl rfl (Nat.le_of_ble_eq_true rfl) ?_
  intro p e s m args below meth c ls X hP hS hl
  have hl : lv_has ls 4 [(0, .ref (ad 0)), (1, .int p0), (2, .int p1)] := hl
  obtain ⟨hx, hb, hml, hown, hts, hr, hlk, hK, hZ⟩ := id X
  have w_1 := hts (.fieldLink RX6 12 "NineBreakages" "now" "LNineBreakages$House;") (by decide +kernel)
  have in6 : ∀ w ∈ u_ws RX6 TX6 8, w ∈ wsX6_safest := fun w q => List.mem_cons_of_mem _ (List.mem_append_left _ (List.mem_append_left _ (List.mem_append_right _ q)))
  have w_3 := hts (.fieldLink RX6 29 "NineBreakages" "thought" "LNineBreakages$Thought;") (by decide +kernel)
  unfold f_X6_safest at h
  refine lv_aload_n hx hb dX6_safest_0 rfl (lv_at hl 0 rfl) ?_
  refine va_get (v := .ref (ad 1)) (C := RX6) (T := TX6) (N := 8) hx hb hts in6 hown hK.1 hP 0 nb_a0 rfl 0 (by decide) w_1 (fun _ h9 => h9) rfl dX6_safest_1 ?_
  refine lv_iload_n hx hb dX6_safest_4 rfl (lv_at hl 1 rfl) ?_
  refine nb_callV (n := 1) (As := [.int p0]) (rest := []) hx hb hml hown hts hK hZ hP hS (k_X0_isPiece had M N p0) gX6_safest_X0_isPiece rfl (by decide +kernel) (nb_rm (Nat.le_of_ble_eq_true rfl) (Nat.le_of_ble_eq_true rfl)) nb_a1 rfl rfl rfl hl.1 rfl (Nat.le_of_ble_eq_true rfl) dX6_safest_5 (fun H locs hP hS => ?_)
  refine W.eq (g2 := F0 m 8 ls [.int (f_X0_isPiece M p0)]) rfl ?_
  refine lv_if_eq (tgt := 19) hx hb dX6_safest_8 (by decide) (fun c_2 => ?_) (fun c_2 => ?_)
  · have h := nb_t c_2 h
    refine lv_aload_n hx hb dX6_safest_19 rfl (lv_at hl 0 rfl) ?_
    refine lv_iconst (v := (1 : Int32)) hx hb dX6_safest_20 (by decide) ?_
    obtain ⟨r_3, M_3, e_3, h⟩ := nb_pE h
    refine nb_callV (n := 1) (As := [.int (1 : Int32)]) (rest := []) hx hb hml hown hts hK hZ hP hS (k_X6_fail had M N (1 : Int32) e_3) gX6_safest_X6_fail rfl (by decide +kernel) (nb_rm (Nat.le_of_ble_eq_true rfl) (Nat.le_of_ble_eq_true rfl)) nb_a0 rfl rfl rfl hl.1 rfl (Nat.le_of_ble_eq_true rfl) dX6_safest_21 (fun H locs hP hS => ?_)
    refine W.eq (g2 := F0 m 24 ls [.int r_3]) rfl ?_
    obtain ⟨rfl, rfl⟩ := nb_e2 h
    exact nb_iret hx hb hr hlk hP hS dX6_safest_24
  · have h := nb_f c_2 h
    refine lv_iload_n hx hb dX6_safest_11 rfl (lv_at hl 2 rfl) ?_
    refine lv_iconst (v := (1 : Int32)) hx hb dX6_safest_12 (by decide) ?_
    refine nb_callS (n := 2) (As := [.int p1, .int (1 : Int32)]) (rest := []) hx hb hml hown hts hK hZ hP hS (k_X6_within had M N p1 (1 : Int32)) gX6_safest_X6_within rfl (by decide +kernel) (nb_rm (Nat.le_of_ble_eq_true rfl) (Nat.le_of_ble_eq_true rfl)) rfl hl.1 rfl (Nat.le_of_ble_eq_true rfl) dX6_safest_13 (fun H locs hP hS => ?_)
    refine W.eq (g2 := F0 m 16 ls [.int (f_X6_within p1 (1 : Int32))]) rfl ?_
    refine lv_if_ne (tgt := 25) hx hb dX6_safest_16 (by decide) (fun c_5 => ?_) (fun c_5 => ?_)
    · have h := nb_f c_5 h
      refine lv_aload_n hx hb dX6_safest_25 rfl (lv_at hl 0 rfl) ?_
      refine va_get (v := .ref (ad 38)) (C := RX6) (T := TX6) (N := 8) hx hb hts in6 hown hK.1 hP 0 nb_a0 rfl 3 (by decide) w_3 (fun _ h9 => h9) rfl dX6_safest_26 ?_
      refine lv_aload_n hx hb dX6_safest_29 rfl (lv_at hl 0 rfl) ?_
      refine va_get (v := .ref (ad 1)) (C := RX6) (T := TX6) (N := 8) hx hb hts in6 hown hK.1 hP 0 nb_a0 rfl 0 (by decide) w_1 (fun _ h9 => h9) rfl dX6_safest_30 ?_
      refine lv_iload_n hx hb dX6_safest_33 rfl (lv_at hl 1 rfl) ?_
      obtain ⟨r_6, M_6, e_6, h⟩ := nb_pE h
      refine nb_callV (n := 2) (As := [.ref (ad 1), .int p0]) (rest := []) hx hb hml hown hts hK hZ hP hS (k_X4_safestFor had M N p0 e_6) gX6_safest_X4_safestFor rfl (by decide +kernel) (nb_rm (Nat.le_of_ble_eq_true rfl) (Nat.le_of_ble_eq_true rfl)) nb_a38 rfl rfl rfl hl.1 rfl (Nat.le_of_ble_eq_true rfl) dX6_safest_34 (fun H locs hP hS => ?_)
      refine W.eq (g2 := F0 m 37 ls [.int r_6]) rfl ?_
      refine lv_istore_n (lv' := [(3, .int r_6), (0, .ref (ad 0)), (1, .int p0), (2, .int p1)]) hx hb dX6_safest_37 rfl hl (by decide) rfl (fun ls hl => ?_)
      refine lv_iload_n hx hb dX6_safest_38 rfl (lv_at hl 3 rfl) ?_
      refine lv_if_ne (tgt := 46) hx hb dX6_safest_39 (by decide) (fun c_7 => ?_) (fun c_7 => ?_)
      · have h := nb_f c_7 h
        refine lv_aload_n hx hb dX6_safest_46 rfl (lv_at hl 1 rfl) ?_
        refine va_get (v := .ref (ad 1)) (C := RX6) (T := TX6) (N := 8) hx hb hts in6 hown hK.1 hP 0 nb_a0 rfl 0 (by decide) w_1 (fun _ h9 => h9) rfl dX6_safest_47 ?_
        refine lv_iload_n hx hb dX6_safest_50 rfl (lv_at hl 2 rfl) ?_
        refine lv_iload_n hx hb dX6_safest_51 rfl (lv_at hl 0 rfl) ?_
        obtain ⟨r_8, M_8, e_8, h⟩ := nb_pE h
        refine nb_callV (n := 2) (As := [.int p0, .int r_6]) (rest := []) hx hb hml hown hts hK hZ hP hS (k_X0_riskIn had M_6 N p0 r_6 e_8) gX6_safest_X0_riskIn rfl (by decide +kernel) (nb_rm (Nat.le_of_ble_eq_true rfl) (Nat.le_of_ble_eq_true rfl)) nb_a1 rfl rfl rfl hl.1 rfl (Nat.le_of_ble_eq_true rfl) dX6_safest_52 (fun H locs hP hS => ?_)
        refine W.eq (g2 := F0 m 55 ls [.int r_8]) rfl ?_
        obtain ⟨rfl, rfl⟩ := nb_e2 h
        exact nb_iret hx hb hr hlk hP hS dX6_safest_55
      · have h := nb_t c_7 h
        refine lv_iload_n hx hb dX6_safest_42 rfl (lv_at hl 0 rfl) ?_
        refine lv_goto (tgt := 55) hx hb dX6_safest_43 (by decide) ?_
        obtain ⟨rfl, rfl⟩ := nb_e2 h
        exact nb_iret hx hb hr hlk hP hS dX6_safest_55
    · have h := nb_t c_5 h
      refine lv_aload_n hx hb dX6_safest_19 rfl (lv_at hl 0 rfl) ?_
      refine lv_iconst (v := (1 : Int32)) hx hb dX6_safest_20 (by decide) ?_
      obtain ⟨r_9, M_9, e_9, h⟩ := nb_pE h
      refine nb_callV (n := 1) (As := [.int (1 : Int32)]) (rest := []) hx hb hml hown hts hK hZ hP hS (k_X6_fail had M N (1 : Int32) e_9) gX6_safest_X6_fail rfl (by decide +kernel) (nb_rm (Nat.le_of_ble_eq_true rfl) (Nat.le_of_ble_eq_true rfl)) nb_a0 rfl rfl rfl hl.1 rfl (Nat.le_of_ble_eq_true rfl) dX6_safest_21 (fun H locs hP hS => ?_)
      refine W.eq (g2 := F0 m 24 ls [.int r_9]) rfl ?_
      obtain ⟨rfl, rfl⟩ := nb_e2 h
      exact nb_iret hx hb hr hlk hP hS dX6_safest_24
set_option maxHeartbeats 4000000 in
set_option maxRecDepth 100000 in
theorem w_X4_savesOf_27 {N : nb_M} {r : Int32} (had : nb_AD ad b0) (X : nb_X p s m args meth c cX4_savesOf 7 RX4 (some .int) wsX4_savesOf D ca b0) : ∀ (n : Nat) (M : nb_M) (x3 : Int32) (x4 : Int32) (x5 : Int32) (x6 : Int32), f_X4_savesOf_27 n M x3 x4 x5 x6 = some r → ∀ (H : Heap) (locs : List Loc), va_P D vwCl (nb_w ad ca M N) H → va_S (fun q => b0 ≤ q) s.heap H locs → ∀ ls : Array Slot, lv_has ls 7 [(3, .int x3), (4, .int x4), (5, .int x5), (6, .int x6)] → W p l e (nb_R 5) s m args below meth c H locs 0 0 (nb_Q below args s D ad ca b0 (some (.int r)) M N) (F0 m 27 ls []) := by
  obtain ⟨hx, hb, hml, hown, hts, hr, hlk, hK, hZ⟩ := id X
  intro n
  induction n with
  | zero =>
    intro M x3 x4 x5 x6 h
    rw [f_X4_savesOf_27] at h
    cases h
  | succ n ih =>
    intro M x3 x4 x5 x6 h H locs hP hS ls hl
    rw [f_X4_savesOf_27] at h
    refine lv_iload hx hb dX4_savesOf_27 (lv_at hl 3 rfl) ?_
    refine lv_bipush (v := (9 : Int32)) hx hb dX4_savesOf_29 (by decide) ?_
    refine lv_icmp_ge (tgt := 67) hx hb dX4_savesOf_31 (by decide) (fun c_5 => ?_) (fun c_5 => ?_)
    · have h := nb_t c_5 h
      refine lv_iload hx hb dX4_savesOf_67 (lv_at hl 2 rfl) ?_
      obtain rfl := nb_e1 h
      exact nb_iret hx hb hr hlk hP hS dX4_savesOf_69
    · have h := nb_f c_5 h
      refine lv_iload hx hb dX4_savesOf_34 (lv_at hl 1 rfl) ?_
      refine lv_if_le (tgt := 67) hx hb dX4_savesOf_36 (by decide) (fun c_6 => ?_) (fun c_6 => ?_)
      · have h := nb_t c_6 h
        refine lv_iload hx hb dX4_savesOf_67 (lv_at hl 2 rfl) ?_
        obtain rfl := nb_e1 h
        exact nb_iret hx hb hr hlk hP hS dX4_savesOf_69
      · have h := nb_f c_6 h
        refine lv_iload_n hx hb dX4_savesOf_39 rfl (lv_at hl 0 rfl) ?_
        refine lv_iload hx hb dX4_savesOf_40 (lv_at hl 3 rfl) ?_
        refine lv_ishr hx hb dX4_savesOf_42 ?_
        refine lv_iconst (v := (1 : Int32)) hx hb dX4_savesOf_43 (by decide) ?_
        refine lv_iand hx hb dX4_savesOf_44 ?_
        refine lv_iconst (v := (1 : Int32)) hx hb dX4_savesOf_45 (by decide) ?_
        refine lv_icmp_ne (tgt := 61) hx hb dX4_savesOf_46 (by decide) (fun c_7 => ?_) (fun c_7 => ?_)
        · have h := nb_f c_7 h
          refine lv_iinc (v := x6 + 1) (lv' := [(6, .int (x6 + 1)), (3, .int x3), (4, .int x4), (5, .int x5)]) hx hb dX4_savesOf_61 hl (k := 3) rfl (congrArg (HAdd.hAdd x6) (by decide)) (by decide) rfl (fun ls hl => ?_)
          refine lv_goto (tgt := 27) hx hb dX4_savesOf_64 (by decide) ?_
          exact ih _ _ _ _ _ h _ _ hP hS _ (lv_sub hl [1, 2, 3, 0] rfl)
        · have h := nb_t c_7 h
          refine lv_iload hx hb dX4_savesOf_49 (lv_at hl 2 rfl) ?_
          refine lv_iconst (v := (1 : Int32)) hx hb dX4_savesOf_51 (by decide) ?_
          refine lv_iload hx hb dX4_savesOf_52 (lv_at hl 3 rfl) ?_
          refine lv_ishl hx hb dX4_savesOf_54 ?_
          refine lv_ior hx hb dX4_savesOf_55 ?_
          refine lv_topi (fun v_8 e_8 => ?_)
          have h := nb_nA e_8 h
          refine lv_istore (lv' := [(5, .int v_8), (3, .int x3), (4, .int x4), (6, .int x6)]) hx hb dX4_savesOf_56 hl (by decide) rfl (fun ls hl => ?_)
          refine lv_iinc (v := x4 + (-1)) (lv' := [(4, .int (x4 + (-1))), (5, .int v_8), (3, .int x3), (6, .int x6)]) hx hb dX4_savesOf_58 hl (k := 2) rfl (congrArg (HAdd.hAdd x4) (by decide)) (by decide) rfl (fun ls hl => ?_)
          refine lv_iinc (v := x6 + 1) (lv' := [(6, .int (x6 + 1)), (4, .int (x4 + (-1))), (5, .int v_8), (3, .int x3)]) hx hb dX4_savesOf_61 hl (k := 3) rfl (congrArg (HAdd.hAdd x6) (by decide)) (by decide) rfl (fun ls hl => ?_)
          refine lv_goto (tgt := 27) hx hb dX4_savesOf_64 (by decide) ?_
          exact ih _ _ _ _ _ h _ _ hP hS _ (lv_sub hl [3, 1, 2, 0] rfl)
set_option maxHeartbeats 4000000 in
set_option maxRecDepth 100000 in
theorem k_X4_savesOf {r : Int32} (had : nb_AD ad b0) (M N : nb_M) (p0 : Int32) (h : f_X4_savesOf M p0 = some r) : nb_C l D ad ca b0 yX4_savesOf wsX4_savesOf 5 [.ref (ad 38), .ref (ad 1), .int p0] M N (some (.int r)) M N := by
  refine nb_of (cc := cX4_savesOf) (maxL := 7) (ret := (some .int)) (own := RX4) (by decide +kernel) rfl rfl (Nat.le_of_ble_eq_true rfl) ?_
  intro p e s m args below meth c ls X hP hS hl
  have hl : lv_has ls 7 [(0, .ref (ad 38)), (1, .ref (ad 1)), (2, .int p0)] := hl
  obtain ⟨hx, hb, hml, hown, hts, hr, hlk, hK, hZ⟩ := id X
  obtain ⟨_, hN1, hN2, hN3, hN4, hN5, hN6⟩ := id hK
  have w_1 := hts (.initialized RX6) (by decide +kernel)
  have w_2 := hts (.static yX6_bitsIn) (by decide +kernel)
  unfold f_X4_savesOf at h
  refine lv_aload_n hx hb dX4_savesOf_0 rfl (lv_at hl 0 rfl) ?_
  refine lv_aload_n hx hb dX4_savesOf_1 rfl (lv_at hl 1 rfl) ?_
  refine lv_iload_n hx hb dX4_savesOf_2 rfl (lv_at hl 2 rfl) ?_
  obtain ⟨r_1, e_1, h⟩ := nb_oE h
  refine nb_callV (n := 2) (As := [.ref (ad 1), .int p0]) (rest := []) hx hb hml hown hts hK hZ hP hS (k_X4_leftOf had M N p0 e_1) gX4_savesOf_X4_leftOf rfl (by decide +kernel) (nb_rm (Nat.le_of_ble_eq_true rfl) (Nat.le_of_ble_eq_true rfl)) nb_a38 rfl rfl rfl hl.1 rfl (Nat.le_of_ble_eq_true rfl) dX4_savesOf_3 (fun H locs hP hS => ?_)
  refine W.eq (g2 := F0 m 6 ls [.int r_1]) rfl ?_
  refine lv_istore_n (lv' := [(3, .int r_1), (0, .ref (ad 38)), (1, .ref (ad 1)), (2, .int p0)]) hx hb dX4_savesOf_6 rfl hl (by decide) rfl (fun ls hl => ?_)
  refine lv_iload_n hx hb dX4_savesOf_7 rfl (lv_at hl 0 rfl) ?_
  refine nb_callN (n := 1) (As := [.int r_1]) (rest := []) hx hb hml hown hts hK hZ hP hS (k_X6_bitsIn had M N r_1) gX4_savesOf_X6_bitsIn_n76 rfl hN3 w_1 w_2 (by decide +kernel) (nb_rm (Nat.le_of_ble_eq_true rfl) (Nat.le_of_ble_eq_true rfl)) rfl hl.1 rfl (Nat.le_of_ble_eq_true rfl) dX4_savesOf_8 (fun H locs hP hS => ?_)
  refine W.eq (g2 := F0 m 11 ls [.int (f_X6_bitsIn r_1)]) rfl ?_
  refine lv_aload_n hx hb dX4_savesOf_11 rfl (lv_at hl 2 rfl) ?_
  refine lv_iload_n hx hb dX4_savesOf_12 rfl (lv_at hl 3 rfl) ?_
  obtain ⟨r_3, e_3, h⟩ := nb_oE h
  refine nb_callV (n := 1) (As := [.int p0]) (rest := [.int (f_X6_bitsIn r_1)]) hx hb hml hown hts hK hZ hP hS (k_X0_toComeOf had M N p0 e_3) gX4_savesOf_X0_toComeOf rfl (by decide +kernel) (nb_rm (Nat.le_of_ble_eq_true rfl) (Nat.le_of_ble_eq_true rfl)) nb_a1 rfl rfl rfl hl.1 rfl (Nat.le_of_ble_eq_true rfl) dX4_savesOf_13 (fun H locs hP hS => ?_)
  refine W.eq (g2 := F0 m 16 ls [.int r_3, .int (f_X6_bitsIn r_1)]) rfl ?_
  refine lv_iconst (v := (1 : Int32)) hx hb dX4_savesOf_16 (by decide) ?_
  refine lv_isub hx hb dX4_savesOf_17 ?_
  refine lv_isub hx hb dX4_savesOf_18 ?_
  refine lv_topi (fun v_4 e_4 => ?_)
  have h := nb_nA e_4 h
  refine lv_istore (lv' := [(4, .int v_4), (3, .int r_1), (0, .ref (ad 38)), (1, .ref (ad 1)), (2, .int p0)]) hx hb dX4_savesOf_19 hl (by decide) rfl (fun ls hl => ?_)
  refine lv_iconst (v := (0 : Int32)) hx hb dX4_savesOf_21 (by decide) ?_
  refine lv_istore (lv' := [(5, .int (0 : Int32)), (4, .int v_4), (3, .int r_1), (0, .ref (ad 38)), (1, .ref (ad 1)), (2, .int p0)]) hx hb dX4_savesOf_22 hl (by decide) rfl (fun ls hl => ?_)
  refine lv_iconst (v := (0 : Int32)) hx hb dX4_savesOf_24 (by decide) ?_
  refine lv_istore (lv' := [(6, .int (0 : Int32)), (5, .int (0 : Int32)), (4, .int v_4), (3, .int r_1), (0, .ref (ad 38)), (1, .ref (ad 1)), (2, .int p0)]) hx hb dX4_savesOf_25 hl (by decide) rfl (fun ls hl => ?_)
  exact w_X4_savesOf_27 had X nb_F _ _ _ _ _ h _ _ hP hS _ (lv_sub hl [3, 2, 1, 0] rfl)
set_option maxHeartbeats 4000000 in
set_option maxRecDepth 100000 in
theorem k_X6_saves {r : Int32} {M' : nb_M} (had : nb_AD ad b0) (M N : nb_M) (p0 : Int32) (p1 : Int32) (h : f_X6_saves M p0 p1 = some (r, M')) : nb_C l D ad ca b0 yX6_saves wsX6_saves 6 [.ref (ad 0), .int p0, .int p1] M N (some (.int r)) M' N := by
  refine nb_of (cc := cX6_saves) (maxL := 4) (ret := (some .int)) (own := RX6) (by decide +kernel) rfl rfl (Nat.le_of_ble_eq_true rfl) ?_
  intro p e s m args below meth c ls X hP hS hl
  have hl : lv_has ls 4 [(0, .ref (ad 0)), (1, .int p0), (2, .int p1)] := hl
  obtain ⟨hx, hb, hml, hown, hts, hr, hlk, hK, hZ⟩ := id X
  have w_1 := hts (.fieldLink RX6 12 "NineBreakages" "now" "LNineBreakages$House;") (by decide +kernel)
  have in6 : ∀ w ∈ u_ws RX6 TX6 8, w ∈ wsX6_saves := fun w q => List.mem_cons_of_mem _ (List.mem_append_left _ (List.mem_append_right _ q))
  have w_3 := hts (.fieldLink RX6 29 "NineBreakages" "thought" "LNineBreakages$Thought;") (by decide +kernel)
  unfold f_X6_saves at h
  refine lv_aload_n hx hb dX6_saves_0 rfl (lv_at hl 0 rfl) ?_
  refine va_get (v := .ref (ad 1)) (C := RX6) (T := TX6) (N := 8) hx hb hts in6 hown hK.1 hP 0 nb_a0 rfl 0 (by decide) w_1 (fun _ h9 => h9) rfl dX6_saves_1 ?_
  refine lv_iload_n hx hb dX6_saves_4 rfl (lv_at hl 1 rfl) ?_
  refine nb_callV (n := 1) (As := [.int p0]) (rest := []) hx hb hml hown hts hK hZ hP hS (k_X0_isPerson had M N p0) gX6_saves_X0_isPerson rfl (by decide +kernel) (nb_rm (Nat.le_of_ble_eq_true rfl) (Nat.le_of_ble_eq_true rfl)) nb_a1 rfl rfl rfl hl.1 rfl (Nat.le_of_ble_eq_true rfl) dX6_saves_5 (fun H locs hP hS => ?_)
  refine W.eq (g2 := F0 m 8 ls [.int (f_X0_isPerson M p0)]) rfl ?_
  refine lv_if_eq (tgt := 19) hx hb dX6_saves_8 (by decide) (fun c_2 => ?_) (fun c_2 => ?_)
  · have h := nb_t c_2 h
    refine lv_aload_n hx hb dX6_saves_19 rfl (lv_at hl 0 rfl) ?_
    refine lv_iconst (v := (1 : Int32)) hx hb dX6_saves_20 (by decide) ?_
    obtain ⟨r_3, M_3, e_3, h⟩ := nb_pE h
    refine nb_callV (n := 1) (As := [.int (1 : Int32)]) (rest := []) hx hb hml hown hts hK hZ hP hS (k_X6_fail had M N (1 : Int32) e_3) gX6_saves_X6_fail rfl (by decide +kernel) (nb_rm (Nat.le_of_ble_eq_true rfl) (Nat.le_of_ble_eq_true rfl)) nb_a0 rfl rfl rfl hl.1 rfl (Nat.le_of_ble_eq_true rfl) dX6_saves_21 (fun H locs hP hS => ?_)
    refine W.eq (g2 := F0 m 24 ls [.int r_3]) rfl ?_
    obtain ⟨rfl, rfl⟩ := nb_e2 h
    exact nb_iret hx hb hr hlk hP hS dX6_saves_24
  · have h := nb_f c_2 h
    refine lv_iload_n hx hb dX6_saves_11 rfl (lv_at hl 2 rfl) ?_
    refine lv_iconst (v := (1 : Int32)) hx hb dX6_saves_12 (by decide) ?_
    refine nb_callS (n := 2) (As := [.int p1, .int (1 : Int32)]) (rest := []) hx hb hml hown hts hK hZ hP hS (k_X6_within had M N p1 (1 : Int32)) gX6_saves_X6_within rfl (by decide +kernel) (nb_rm (Nat.le_of_ble_eq_true rfl) (Nat.le_of_ble_eq_true rfl)) rfl hl.1 rfl (Nat.le_of_ble_eq_true rfl) dX6_saves_13 (fun H locs hP hS => ?_)
    refine W.eq (g2 := F0 m 16 ls [.int (f_X6_within p1 (1 : Int32))]) rfl ?_
    refine lv_if_ne (tgt := 25) hx hb dX6_saves_16 (by decide) (fun c_5 => ?_) (fun c_5 => ?_)
    · have h := nb_f c_5 h
      refine lv_aload_n hx hb dX6_saves_25 rfl (lv_at hl 0 rfl) ?_
      refine va_get (v := .ref (ad 1)) (C := RX6) (T := TX6) (N := 8) hx hb hts in6 hown hK.1 hP 0 nb_a0 rfl 0 (by decide) w_1 (fun _ h9 => h9) rfl dX6_saves_26 ?_
      refine lv_iload_n hx hb dX6_saves_29 rfl (lv_at hl 1 rfl) ?_
      obtain ⟨r_6, e_6, h⟩ := nb_oE h
      refine nb_callV (n := 1) (As := [.int p0]) (rest := []) hx hb hml hown hts hK hZ hP hS (k_X0_isThrough had M N p0 e_6) gX6_saves_X0_isThrough rfl (by decide +kernel) (nb_rm (Nat.le_of_ble_eq_true rfl) (Nat.le_of_ble_eq_true rfl)) nb_a1 rfl rfl rfl hl.1 rfl (Nat.le_of_ble_eq_true rfl) dX6_saves_30 (fun H locs hP hS => ?_)
      refine W.eq (g2 := F0 m 33 ls [.int r_6]) rfl ?_
      refine lv_if_eq (tgt := 42) hx hb dX6_saves_33 (by decide) (fun c_7 => ?_) (fun c_7 => ?_)
      · have h := nb_t c_7 h
        refine lv_aload_n hx hb dX6_saves_42 rfl (lv_at hl 0 rfl) ?_
        refine va_get (v := .ref (ad 38)) (C := RX6) (T := TX6) (N := 8) hx hb hts in6 hown hK.1 hP 0 nb_a0 rfl 3 (by decide) w_3 (fun _ h9 => h9) rfl dX6_saves_43 ?_
        refine lv_aload_n hx hb dX6_saves_46 rfl (lv_at hl 0 rfl) ?_
        refine va_get (v := .ref (ad 1)) (C := RX6) (T := TX6) (N := 8) hx hb hts in6 hown hK.1 hP 0 nb_a0 rfl 0 (by decide) w_1 (fun _ h9 => h9) rfl dX6_saves_47 ?_
        refine lv_iload_n hx hb dX6_saves_50 rfl (lv_at hl 1 rfl) ?_
        obtain ⟨r_8, e_8, h⟩ := nb_oE h
        refine nb_callV (n := 2) (As := [.ref (ad 1), .int p0]) (rest := []) hx hb hml hown hts hK hZ hP hS (k_X4_savesOf had M N p0 e_8) gX6_saves_X4_savesOf rfl (by decide +kernel) (nb_rm (Nat.le_of_ble_eq_true rfl) (Nat.le_of_ble_eq_true rfl)) nb_a38 rfl rfl rfl hl.1 rfl (Nat.le_of_ble_eq_true rfl) dX6_saves_51 (fun H locs hP hS => ?_)
        refine W.eq (g2 := F0 m 54 ls [.int r_8]) rfl ?_
        refine lv_istore_n (lv' := [(3, .int r_8), (0, .ref (ad 0)), (1, .int p0), (2, .int p1)]) hx hb dX6_saves_54 rfl hl (by decide) rfl (fun ls hl => ?_)
        refine lv_iload_n hx hb dX6_saves_55 rfl (lv_at hl 3 rfl) ?_
        refine lv_if_ne (tgt := 66) hx hb dX6_saves_56 (by decide) (fun c_9 => ?_) (fun c_9 => ?_)
        · have h := nb_f c_9 h
          refine lv_iload_n hx hb dX6_saves_66 rfl (lv_at hl 0 rfl) ?_
          obtain ⟨rfl, rfl⟩ := nb_e2 h
          exact nb_iret hx hb hr hlk hP hS dX6_saves_67
        · have h := nb_t c_9 h
          refine lv_iload_n hx hb dX6_saves_59 rfl (lv_at hl 0 rfl) ?_
          refine nb_callS (n := 1) (As := [.int r_8]) (rest := []) hx hb hml hown hts hK hZ hP hS (k_X6_bitsIn had M N r_8) gX6_saves_X6_bitsIn rfl (by decide +kernel) (nb_rm (Nat.le_of_ble_eq_true rfl) (Nat.le_of_ble_eq_true rfl)) rfl hl.1 rfl (Nat.le_of_ble_eq_true rfl) dX6_saves_60 (fun H locs hP hS => ?_)
          refine W.eq (g2 := F0 m 63 ls [.int (f_X6_bitsIn r_8)]) rfl ?_
          refine lv_goto (tgt := 67) hx hb dX6_saves_63 (by decide) ?_
          obtain ⟨rfl, rfl⟩ := nb_e2 h
          exact nb_iret hx hb hr hlk hP hS dX6_saves_67
      · have h := nb_f c_7 h
        refine lv_aload_n hx hb dX6_saves_36 rfl (lv_at hl 0 rfl) ?_
        refine lv_iconst (v := (3 : Int32)) hx hb dX6_saves_37 (by decide) ?_
        obtain ⟨r_11, M_11, e_11, h⟩ := nb_pE h
        refine nb_callV (n := 1) (As := [.int (3 : Int32)]) (rest := []) hx hb hml hown hts hK hZ hP hS (k_X6_fail had M N (3 : Int32) e_11) gX6_saves_X6_fail rfl (by decide +kernel) (nb_rm (Nat.le_of_ble_eq_true rfl) (Nat.le_of_ble_eq_true rfl)) nb_a0 rfl rfl rfl hl.1 rfl (Nat.le_of_ble_eq_true rfl) dX6_saves_38 (fun H locs hP hS => ?_)
        refine W.eq (g2 := F0 m 41 ls [.int r_11]) rfl ?_
        obtain ⟨rfl, rfl⟩ := nb_e2 h
        exact nb_iret hx hb hr hlk hP hS dX6_saves_41
    · have h := nb_t c_5 h
      refine lv_aload_n hx hb dX6_saves_19 rfl (lv_at hl 0 rfl) ?_
      refine lv_iconst (v := (1 : Int32)) hx hb dX6_saves_20 (by decide) ?_
      obtain ⟨r_12, M_12, e_12, h⟩ := nb_pE h
      refine nb_callV (n := 1) (As := [.int (1 : Int32)]) (rest := []) hx hb hml hown hts hK hZ hP hS (k_X6_fail had M N (1 : Int32) e_12) gX6_saves_X6_fail rfl (by decide +kernel) (nb_rm (Nat.le_of_ble_eq_true rfl) (Nat.le_of_ble_eq_true rfl)) nb_a0 rfl rfl rfl hl.1 rfl (Nat.le_of_ble_eq_true rfl) dX6_saves_21 (fun H locs hP hS => ?_)
      refine W.eq (g2 := F0 m 24 ls [.int r_12]) rfl ?_
      obtain ⟨rfl, rfl⟩ := nb_e2 h
      exact nb_iret hx hb hr hlk hP hS dX6_saves_24
set_option maxHeartbeats 4000000 in
set_option maxRecDepth 100000 in
theorem w_X4_firstOf_2 {N : nb_M} {r : Int32} (had : nb_AD ad b0) (X : nb_X p s m args meth c cX4_firstOf 4 RX4 (some .int) wsX4_firstOf D ca b0) : ∀ (n : Nat) (M : nb_M) (x2 : Int32) (x3 : Int32), f_X4_firstOf_2 n M x2 x3 = some r → ∀ (H : Heap) (locs : List Loc), va_P D vwCl (nb_w ad ca M N) H → va_S (fun q => b0 ≤ q) s.heap H locs → ∀ ls : Array Slot, lv_has ls 4 [(1, .ref (ad 1)), (2, .int x2), (3, .int x3)] → W p l e (nb_R 3) s m args below meth c H locs 0 0 (nb_Q below args s D ad ca b0 (some (.int r)) M N) (F0 m 2 ls []) := by
  obtain ⟨hx, hb, hml, hown, hts, hr, hlk, hK, hZ⟩ := id X
  have w_1 := hts (.fieldLink RX4 32 "NineBreakages$House" "day" "I") (by decide +kernel)
  have in0 : ∀ w ∈ u_ws RX0 TX0 16, w ∈ wsX4_firstOf := fun w q => List.mem_cons_of_mem _ (List.mem_append_right _ q)
  intro n
  induction n with
  | zero =>
    intro M x2 x3 h
    rw [f_X4_firstOf_2] at h
    cases h
  | succ n ih =>
    intro M x2 x3 h H locs hP hS ls hl
    rw [f_X4_firstOf_2] at h
    refine lv_iload_n hx hb dX4_firstOf_2 rfl (lv_at hl 2 rfl) ?_
    refine lv_bipush (v := (60 : Int32)) hx hb dX4_firstOf_3 (by decide) ?_
    refine lv_icmp_gt (tgt := 30) hx hb dX4_firstOf_5 (by decide) (fun c_1 => ?_) (fun c_1 => ?_)
    · have h := nb_t c_1 h
      refine lv_iconst (v := (-1 : Int32)) hx hb dX4_firstOf_30 (by decide) ?_
      obtain rfl := nb_e1 h
      exact nb_iret hx hb hr hlk hP hS dX4_firstOf_31
    · have h := nb_f c_1 h
      refine lv_aload_n hx hb dX4_firstOf_8 rfl (lv_at hl 0 rfl) ?_
      refine lv_iload_n hx hb dX4_firstOf_9 rfl (lv_at hl 1 rfl) ?_
      refine lv_aload_n hx hb dX4_firstOf_10 rfl (lv_at hl 0 rfl) ?_
      refine va_get (v := .int (M.1 1 0)) (C := RX0) (T := TX0) (N := 16) hx hb hts in0 hown hK.1 hP 1 nb_a1 rfl 0 (by decide) w_1 (fun _ h9 => h9) rfl dX4_firstOf_11 ?_
      refine lv_iload_n hx hb dX4_firstOf_14 rfl (lv_at hl 2 rfl) ?_
      refine lv_iadd hx hb dX4_firstOf_15 ?_
      obtain ⟨r_2, e_2, h⟩ := nb_oE h
      refine nb_callV (n := 2) (As := [.int x2, .int ((M.1 1 0) + x3)]) (rest := []) hx hb hml hown hts hK hZ hP hS (k_X0_countsOn had M N x2 ((M.1 1 0) + x3) e_2) gX4_firstOf_X0_countsOn rfl (by decide +kernel) (nb_rm (Nat.le_of_ble_eq_true rfl) (Nat.le_of_ble_eq_true rfl)) nb_a1 rfl rfl rfl hl.1 rfl (Nat.le_of_ble_eq_true rfl) dX4_firstOf_16 (fun H locs hP hS => ?_)
      refine W.eq (g2 := F0 m 19 ls [.int r_2]) rfl ?_
      refine lv_if_eq (tgt := 24) hx hb dX4_firstOf_19 (by decide) (fun c_3 => ?_) (fun c_3 => ?_)
      · have h := nb_t c_3 h
        refine lv_iinc (v := x3 + 1) (lv' := [(3, .int (x3 + 1)), (1, .ref (ad 1)), (2, .int x2)]) hx hb dX4_firstOf_24 hl (k := 2) rfl (congrArg (HAdd.hAdd x3) (by decide)) (by decide) rfl (fun ls hl => ?_)
        refine lv_goto (tgt := 2) hx hb dX4_firstOf_27 (by decide) ?_
        exact ih _ _ _ h _ _ hP hS _ (lv_sub hl [1, 2, 0] rfl)
      · have h := nb_f c_3 h
        refine lv_iload_n hx hb dX4_firstOf_22 rfl (lv_at hl 2 rfl) ?_
        obtain rfl := nb_e1 h
        exact nb_iret hx hb hr hlk hP hS dX4_firstOf_23
set_option maxHeartbeats 4000000 in
set_option maxRecDepth 100000 in
theorem k_X4_firstOf {r : Int32} (had : nb_AD ad b0) (M N : nb_M) (p0 : Int32) (h : f_X4_firstOf M p0 = some r) : nb_C l D ad ca b0 yX4_firstOf wsX4_firstOf 3 [.ref (ad 38), .ref (ad 1), .int p0] M N (some (.int r)) M N := by
  refine nb_of (cc := cX4_firstOf) (maxL := 4) (ret := (some .int)) (own := RX4) (by decide +kernel) rfl rfl (Nat.le_of_ble_eq_true rfl) ?_
  intro p e s m args below meth c ls X hP hS hl
  have hl : lv_has ls 4 [(0, .ref (ad 38)), (1, .ref (ad 1)), (2, .int p0)] := hl
  obtain ⟨hx, hb, hml, hown, hts, hr, hlk, hK, hZ⟩ := id X
  unfold f_X4_firstOf at h
  refine lv_iconst (v := (0 : Int32)) hx hb dX4_firstOf_0 (by decide) ?_
  refine lv_istore_n (lv' := [(3, .int (0 : Int32)), (0, .ref (ad 38)), (1, .ref (ad 1)), (2, .int p0)]) hx hb dX4_firstOf_1 rfl hl (by decide) rfl (fun ls hl => ?_)
  exact w_X4_firstOf_2 had X nb_F _ _ _ h _ _ hP hS _ (lv_sub hl [2, 3, 0] rfl)
set_option maxHeartbeats 4000000 in
set_option maxRecDepth 100000 in
theorem k_X6_counts {r : Int32} {M' : nb_M} (had : nb_AD ad b0) (M N : nb_M) (p0 : Int32) (h : f_X6_counts M p0 = some (r, M')) : nb_C l D ad ca b0 yX6_counts wsX6_counts 4 [.ref (ad 0), .int p0] M N (some (.int r)) M' N := by
  refine nb_of (cc := cX6_counts) (maxL := 3) (ret := (some .int)) (own := RX6) (by decide +kernel) rfl rfl (Nat.le_of_ble_eq_true rfl) ?_
  intro p e s m args below meth c ls X hP hS hl
  have hl : lv_has ls 3 [(0, .ref (ad 0)), (1, .int p0)] := hl
  obtain ⟨hx, hb, hml, hown, hts, hr, hlk, hK, hZ⟩ := id X
  have w_1 := hts (.fieldLink RX6 12 "NineBreakages" "now" "LNineBreakages$House;") (by decide +kernel)
  have in6 : ∀ w ∈ u_ws RX6 TX6 8, w ∈ wsX6_counts := fun w q => List.mem_cons_of_mem _ (List.mem_append_left _ (List.mem_append_right _ q))
  have w_3 := hts (.fieldLink RX6 29 "NineBreakages" "thought" "LNineBreakages$Thought;") (by decide +kernel)
  unfold f_X6_counts at h
  refine lv_aload_n hx hb dX6_counts_0 rfl (lv_at hl 0 rfl) ?_
  refine va_get (v := .ref (ad 1)) (C := RX6) (T := TX6) (N := 8) hx hb hts in6 hown hK.1 hP 0 nb_a0 rfl 0 (by decide) w_1 (fun _ h9 => h9) rfl dX6_counts_1 ?_
  refine lv_iload_n hx hb dX6_counts_4 rfl (lv_at hl 1 rfl) ?_
  refine nb_callV (n := 1) (As := [.int p0]) (rest := []) hx hb hml hown hts hK hZ hP hS (k_X0_isPiece had M N p0) gX6_counts_X0_isPiece rfl (by decide +kernel) (nb_rm (Nat.le_of_ble_eq_true rfl) (Nat.le_of_ble_eq_true rfl)) nb_a1 rfl rfl rfl hl.1 rfl (Nat.le_of_ble_eq_true rfl) dX6_counts_5 (fun H locs hP hS => ?_)
  refine W.eq (g2 := F0 m 8 ls [.int (f_X0_isPiece M p0)]) rfl ?_
  refine lv_if_ne (tgt := 17) hx hb dX6_counts_8 (by decide) (fun c_2 => ?_) (fun c_2 => ?_)
  · have h := nb_f c_2 h
    refine lv_aload_n hx hb dX6_counts_17 rfl (lv_at hl 0 rfl) ?_
    refine va_get (v := .ref (ad 38)) (C := RX6) (T := TX6) (N := 8) hx hb hts in6 hown hK.1 hP 0 nb_a0 rfl 3 (by decide) w_3 (fun _ h9 => h9) rfl dX6_counts_18 ?_
    refine lv_aload_n hx hb dX6_counts_21 rfl (lv_at hl 0 rfl) ?_
    refine va_get (v := .ref (ad 1)) (C := RX6) (T := TX6) (N := 8) hx hb hts in6 hown hK.1 hP 0 nb_a0 rfl 0 (by decide) w_1 (fun _ h9 => h9) rfl dX6_counts_22 ?_
    refine lv_iload_n hx hb dX6_counts_25 rfl (lv_at hl 1 rfl) ?_
    obtain ⟨r_3, e_3, h⟩ := nb_oE h
    refine nb_callV (n := 2) (As := [.ref (ad 1), .int p0]) (rest := []) hx hb hml hown hts hK hZ hP hS (k_X4_firstOf had M N p0 e_3) gX6_counts_X4_firstOf rfl (by decide +kernel) (nb_rm (Nat.le_of_ble_eq_true rfl) (Nat.le_of_ble_eq_true rfl)) nb_a38 rfl rfl rfl hl.1 rfl (Nat.le_of_ble_eq_true rfl) dX6_counts_26 (fun H locs hP hS => ?_)
    refine W.eq (g2 := F0 m 29 ls [.int r_3]) rfl ?_
    refine lv_istore_n (lv' := [(2, .int r_3), (0, .ref (ad 0)), (1, .int p0)]) hx hb dX6_counts_29 rfl hl (by decide) rfl (fun ls hl => ?_)
    refine lv_iload_n hx hb dX6_counts_30 rfl (lv_at hl 0 rfl) ?_
    refine lv_if_ge (tgt := 42) hx hb dX6_counts_31 (by decide) (fun c_4 => ?_) (fun c_4 => ?_)
    · have h := nb_t c_4 h
      refine lv_iload_n hx hb dX6_counts_42 rfl (lv_at hl 0 rfl) ?_
      obtain ⟨rfl, rfl⟩ := nb_e2 h
      exact nb_iret hx hb hr hlk hP hS dX6_counts_43
    · have h := nb_f c_4 h
      refine lv_aload_n hx hb dX6_counts_34 rfl (lv_at hl 1 rfl) ?_
      refine lv_iconst (v := (2 : Int32)) hx hb dX6_counts_35 (by decide) ?_
      obtain ⟨r_5, M_5, e_5, h⟩ := nb_pE h
      refine nb_callV (n := 1) (As := [.int (2 : Int32)]) (rest := []) hx hb hml hown hts hK hZ hP hS (k_X6_fail had M N (2 : Int32) e_5) gX6_counts_X6_fail rfl (by decide +kernel) (nb_rm (Nat.le_of_ble_eq_true rfl) (Nat.le_of_ble_eq_true rfl)) nb_a0 rfl rfl rfl hl.1 rfl (Nat.le_of_ble_eq_true rfl) dX6_counts_36 (fun H locs hP hS => ?_)
      refine W.eq (g2 := F0 m 39 ls [.int r_5]) rfl ?_
      refine lv_goto (tgt := 43) hx hb dX6_counts_39 (by decide) ?_
      obtain ⟨rfl, rfl⟩ := nb_e2 h
      exact nb_iret hx hb hr hlk hP hS dX6_counts_43
  · have h := nb_t c_2 h
    refine lv_aload_n hx hb dX6_counts_11 rfl (lv_at hl 0 rfl) ?_
    refine lv_iconst (v := (1 : Int32)) hx hb dX6_counts_12 (by decide) ?_
    obtain ⟨r_6, M_6, e_6, h⟩ := nb_pE h
    refine nb_callV (n := 1) (As := [.int (1 : Int32)]) (rest := []) hx hb hml hown hts hK hZ hP hS (k_X6_fail had M N (1 : Int32) e_6) gX6_counts_X6_fail rfl (by decide +kernel) (nb_rm (Nat.le_of_ble_eq_true rfl) (Nat.le_of_ble_eq_true rfl)) nb_a0 rfl rfl rfl hl.1 rfl (Nat.le_of_ble_eq_true rfl) dX6_counts_13 (fun H locs hP hS => ?_)
    refine W.eq (g2 := F0 m 16 ls [.int r_6]) rfl ?_
    obtain ⟨rfl, rfl⟩ := nb_e2 h
    exact nb_iret hx hb hr hlk hP hS dX6_counts_16
set_option maxHeartbeats 4000000 in
set_option maxRecDepth 100000 in
theorem k_X6_isSheet (had : nb_AD ad b0) (M N : nb_M) (p0 : Int32) : nb_C l D ad ca b0 yX6_isSheet wsX6_isSheet 1 [.int p0] M N (some (.int (f_X6_isSheet p0))) M N := by
  obtain ⟨r, h⟩ : ∃ r, f_X6_isSheet p0 = r := ⟨_, rfl⟩
  rw [h]
  refine nb_of (cc := cX6_isSheet) (maxL := 1) (ret := (some .boolean)) (own := RX6) (by decide +kernel) rfl rfl (Nat.le_of_ble_eq_true rfl) ?_
  intro p e s m args below meth c ls X hP hS hl
  have hl : lv_has ls 1 [(0, .int p0)] := hl
  obtain ⟨hx, hb, hml, hown, hts, hr, hlk, hK, hZ⟩ := id X
  unfold f_X6_isSheet at h
  refine lv_iload_n hx hb dX6_isSheet_0 rfl (lv_at hl 0 rfl) ?_
  refine lv_iconst (v := (3 : Int32)) hx hb dX6_isSheet_1 (by decide) ?_
  refine nb_callS (n := 2) (As := [.int p0, .int (3 : Int32)]) (rest := []) hx hb hml hown hts hK hZ hP hS (k_X6_within had M N p0 (3 : Int32)) gX6_isSheet_X6_within rfl (by decide +kernel) (nb_rm (Nat.le_of_ble_eq_true rfl) (Nat.le_of_ble_eq_true rfl)) rfl hl.1 rfl (Nat.le_of_ble_eq_true rfl) dX6_isSheet_2 (fun H locs hP hS => ?_)
  refine W.eq (g2 := F0 m 5 ls [.int (f_X6_within p0 (3 : Int32))]) rfl ?_
  obtain rfl := nb_e3 h
  exact nb_zret (z_X6_within p0 (3 : Int32)) hx hb hr hlk hP hS dX6_isSheet_5
set_option maxHeartbeats 4000000 in
set_option maxRecDepth 100000 in
theorem k_X2_isMissing_43 (had : nb_AD ad b0) (M N : nb_M) : nb_C l D ad ca b0 yX2_isMissing wsX2_isMissing 0 [.ref (ad 43)] M N (some (.int (f_X2_isMissing_43 M))) M N := by
  obtain ⟨r, h⟩ : ∃ r, f_X2_isMissing_43 M = r := ⟨_, rfl⟩
  rw [h]
  refine nb_of (cc := cX2_isMissing) (maxL := 1) (ret := (some .boolean)) (own := RX2) (by decide +kernel) rfl rfl (Nat.le_of_ble_eq_true rfl) ?_
  intro p e s m args below meth c ls X hP hS hl
  have hl : lv_has ls 1 [(0, .ref (ad 43))] := hl
  obtain ⟨hx, hb, hml, hown, hts, hr, hlk, hK, hZ⟩ := id X
  have w_1 := hts (.fieldLink RX2 15 "NineBreakages$Sheet" "bits" "I") (by decide +kernel)
  have in2 : ∀ w ∈ u_ws RX2 TX2 3, w ∈ wsX2_isMissing := fun w q => List.mem_cons_of_mem _ (List.mem_append_right _ q)
  unfold f_X2_isMissing_43 at h
  refine lv_aload_n hx hb dX2_isMissing_0 rfl (lv_at hl 0 rfl) ?_
  refine va_get (v := .int (M.1 43 1)) (C := RX2) (T := TX2) (N := 3) hx hb hts in2 hown hK.1 hP 43 nb_a43 rfl 1 (by decide) w_1 (fun _ h9 => h9) rfl dX2_isMissing_1 ?_
  refine lv_if_ne (tgt := 11) hx hb dX2_isMissing_4 (by decide) (fun c_1 => ?_) (fun c_1 => ?_)
  · have h := nb_f c_1 h
    refine lv_iconst (v := (0 : Int32)) hx hb dX2_isMissing_11 (by decide) ?_
    obtain rfl := nb_e3 h
    exact nb_zret (by decide) hx hb hr hlk hP hS dX2_isMissing_12
  · have h := nb_t c_1 h
    refine lv_iconst (v := (1 : Int32)) hx hb dX2_isMissing_7 (by decide) ?_
    refine lv_goto (tgt := 12) hx hb dX2_isMissing_8 (by decide) ?_
    obtain rfl := nb_e3 h
    exact nb_zret (by decide) hx hb hr hlk hP hS dX2_isMissing_12
set_option maxHeartbeats 4000000 in
set_option maxRecDepth 100000 in
theorem w_X4_tellsRisks_38_1_43_3 {N : nb_M} {r : Int32} {M' : nb_M} (had : nb_AD ad b0) (X : nb_X p s m args meth c cX4_tellsRisks 5 RX4 (some .boolean) wsX4_tellsRisks D ca b0) : ∀ (n : Nat) (M : nb_M) (x3 : Int32) (x4 : Int32), f_X4_tellsRisks_38_1_43_3 n M x3 x4 = some (r, M') → ∀ (H : Heap) (locs : List Loc), va_P D vwCl (nb_w ad ca M N) H → va_S (fun q => b0 ≤ q) s.heap H locs → ∀ ls : Array Slot, lv_has ls 5 [(1, .ref (ad 1)), (2, .ref (ad 43)), (3, .int x3), (4, .int x4)] → W p l e (nb_R 4) s m args below meth c H locs 0 0 (nb_Q below args s D ad ca b0 (some (.int r)) M' N) (F0 m 3 ls []) := by
  obtain ⟨hx, hb, hml, hown, hts, hr, hlk, hK, hZ⟩ := id X
  have w_1 := hts (.fieldLink RX4 83 "NineBreakages$Sheet" "size" "I") (by decide +kernel)
  have in2 : ∀ w ∈ u_ws RX2 TX2 3, w ∈ wsX4_tellsRisks := fun w q => List.mem_cons_of_mem _ (List.mem_append_left _ (List.mem_append_left _ (List.mem_append_right _ q)))
  have w_3 := hts (.fieldLink RX4 15 "NineBreakages$House" "pieces" "I") (by decide +kernel)
  have in0 : ∀ w ∈ u_ws RX0 TX0 16, w ∈ wsX4_tellsRisks := fun w q => List.mem_cons_of_mem _ (List.mem_append_left _ (List.mem_append_right _ q))
  have w_5 := hts (.fieldLink RX4 88 "NineBreakages$Sheet" "numbers" "[I") (by decide +kernel)
  intro n
  induction n with
  | zero =>
    intro M x3 x4 h
    rw [f_X4_tellsRisks_38_1_43_3] at h
    cases h
  | succ n ih =>
    intro M x3 x4 h H locs hP hS ls hl
    rw [f_X4_tellsRisks_38_1_43_3] at h
    refine lv_iload hx hb dX4_tellsRisks_3 (lv_at hl 3 rfl) ?_
    refine lv_aload_n hx hb dX4_tellsRisks_5 rfl (lv_at hl 1 rfl) ?_
    refine va_get (v := .int (M.1 43 2)) (C := RX2) (T := TX2) (N := 3) hx hb hts in2 hown hK.1 hP 43 nb_a43 rfl 2 (by decide) w_1 (fun _ h9 => h9) rfl dX4_tellsRisks_6 ?_
    refine lv_icmp_ge (tgt := 46) hx hb dX4_tellsRisks_9 (by decide) (fun c_1 => ?_) (fun c_1 => ?_)
    · have h := nb_t c_1 h
      refine lv_iconst (v := (1 : Int32)) hx hb dX4_tellsRisks_46 (by decide) ?_
      obtain ⟨rfl, rfl⟩ := nb_e2 h
      exact nb_zret (by decide) hx hb hr hlk hP hS dX4_tellsRisks_47
    · have h := nb_f c_1 h
      refine lv_iload hx hb dX4_tellsRisks_12 (lv_at hl 3 rfl) ?_
      refine lv_aload_n hx hb dX4_tellsRisks_14 rfl (lv_at hl 0 rfl) ?_
      refine va_get (v := .int (M.1 1 6)) (C := RX0) (T := TX0) (N := 16) hx hb hts in0 hown hK.1 hP 1 nb_a1 rfl 6 (by decide) w_3 (fun _ h9 => h9) rfl dX4_tellsRisks_15 ?_
      refine lv_icmp_ge (tgt := 38) hx hb dX4_tellsRisks_18 (by decide) (fun c_2 => ?_) (fun c_2 => ?_)
      · have h := nb_t c_2 h
        refine lv_iconst (v := (0 : Int32)) hx hb dX4_tellsRisks_38 (by decide) ?_
        obtain ⟨rfl, rfl⟩ := nb_e2 h
        exact nb_zret (by decide) hx hb hr hlk hP hS dX4_tellsRisks_39
      · have h := nb_f c_2 h
        refine lv_aload_n hx hb dX4_tellsRisks_21 rfl (lv_at hl 1 rfl) ?_
        refine va_get (v := .ref (ad 44)) (C := RX2) (T := TX2) (N := 3) hx hb hts in2 hown hK.1 hP 43 nb_a43 rfl 0 (by decide) w_5 (fun _ h9 => h9) rfl dX4_tellsRisks_22 ?_
        refine lv_iload hx hb dX4_tellsRisks_25 (lv_at hl 3 rfl) ?_
        obtain ⟨c_3, h⟩ := nb_c h
        refine va_iald hx hb hK.1 hP 44 0 nb_a44 rfl c_3 dX4_tellsRisks_27 ?_
        refine lv_aload_n hx hb dX4_tellsRisks_28 rfl (lv_at hl 0 rfl) ?_
        refine lv_iload hx hb dX4_tellsRisks_29 (lv_at hl 3 rfl) ?_
        refine lv_iload_n hx hb dX4_tellsRisks_31 rfl (lv_at hl 2 rfl) ?_
        obtain ⟨r_4, M_4, e_4, h⟩ := nb_pE h
        refine nb_callV (n := 2) (As := [.int x4, .int x3]) (rest := [.int (M.1 44 x4.toNatClampNeg)]) hx hb hml hown hts hK hZ hP hS (k_X0_riskBy had M N x4 x3 e_4) gX4_tellsRisks_X0_riskBy rfl (by decide +kernel) (nb_rm (Nat.le_of_ble_eq_true rfl) (Nat.le_of_ble_eq_true rfl)) nb_a1 rfl rfl rfl hl.1 rfl (Nat.le_of_ble_eq_true rfl) dX4_tellsRisks_32 (fun H locs hP hS => ?_)
        refine W.eq (g2 := F0 m 35 ls [.int r_4, .int (M.1 44 x4.toNatClampNeg)]) rfl ?_
        refine lv_icmp_eq (tgt := 40) hx hb dX4_tellsRisks_35 (by decide) (fun c_5 => ?_) (fun c_5 => ?_)
        · have h := nb_t c_5 h
          refine lv_iinc (v := x4 + 1) (lv' := [(4, .int (x4 + 1)), (1, .ref (ad 1)), (2, .ref (ad 43)), (3, .int x3)]) hx hb dX4_tellsRisks_40 hl (k := 3) rfl (congrArg (HAdd.hAdd x4) (by decide)) (by decide) rfl (fun ls hl => ?_)
          refine lv_goto (tgt := 3) hx hb dX4_tellsRisks_43 (by decide) ?_
          exact ih _ _ _ h _ _ hP hS _ (lv_sub hl [1, 2, 3, 0] rfl)
        · have h := nb_f c_5 h
          refine lv_iconst (v := (0 : Int32)) hx hb dX4_tellsRisks_38 (by decide) ?_
          obtain ⟨rfl, rfl⟩ := nb_e2 h
          exact nb_zret (by decide) hx hb hr hlk hP hS dX4_tellsRisks_39
set_option maxHeartbeats 4000000 in
set_option maxRecDepth 100000 in
theorem k_X4_tellsRisks_38_1_43 {r : Int32} {M' : nb_M} (had : nb_AD ad b0) (M N : nb_M) (p0 : Int32) (h : f_X4_tellsRisks_38_1_43 M p0 = some (r, M')) : nb_C l D ad ca b0 yX4_tellsRisks wsX4_tellsRisks 4 [.ref (ad 38), .ref (ad 1), .ref (ad 43), .int p0] M N (some (.int r)) M' N := by
  refine nb_of (cc := cX4_tellsRisks) (maxL := 5) (ret := (some .boolean)) (own := RX4) (by decide +kernel) rfl rfl (Nat.le_of_ble_eq_true rfl) ?_
  intro p e s m args below meth c ls X hP hS hl
  have hl : lv_has ls 5 [(0, .ref (ad 38)), (1, .ref (ad 1)), (2, .ref (ad 43)), (3, .int p0)] := hl
  obtain ⟨hx, hb, hml, hown, hts, hr, hlk, hK, hZ⟩ := id X
  unfold f_X4_tellsRisks_38_1_43 at h
  refine lv_iconst (v := (0 : Int32)) hx hb dX4_tellsRisks_0 (by decide) ?_
  refine lv_istore (lv' := [(4, .int (0 : Int32)), (0, .ref (ad 38)), (1, .ref (ad 1)), (2, .ref (ad 43)), (3, .int p0)]) hx hb dX4_tellsRisks_1 hl (by decide) rfl (fun ls hl => ?_)
  exact w_X4_tellsRisks_38_1_43_3 had X nb_F _ _ _ h _ _ hP hS _ (lv_sub hl [2, 3, 4, 0] rfl)
set_option maxHeartbeats 4000000 in
set_option maxRecDepth 100000 in
theorem w_X4_fitsBy_38_1_43_5 {N : nb_M} {r : Int32} {M' : nb_M} (had : nb_AD ad b0) (X : nb_X p s m args meth c cX4_fitsBy 5 RX4 (some .int) wsX4_fitsBy D ca b0) : ∀ (n : Nat) (M : nb_M) (x3 : Int32) (x4 : Int32), f_X4_fitsBy_38_1_43_5 n M x3 x4 = some (r, M') → ∀ (H : Heap) (locs : List Loc), va_P D vwCl (nb_w ad ca M N) H → va_S (fun q => b0 ≤ q) s.heap H locs → ∀ ls : Array Slot, lv_has ls 5 [(0, .ref (ad 38)), (1, .ref (ad 1)), (2, .ref (ad 43)), (3, .int x3), (4, .int x4)] → W p l e (nb_R 5) s m args below meth c H locs 0 0 (nb_Q below args s D ad ca b0 (some (.int r)) M' N) (F0 m 5 ls []) := by
  obtain ⟨hx, hb, hml, hown, hts, hr, hlk, hK, hZ⟩ := id X
  intro n
  induction n with
  | zero =>
    intro M x3 x4 h
    rw [f_X4_fitsBy_38_1_43_5] at h
    cases h
  | succ n ih =>
    intro M x3 x4 h H locs hP hS ls hl
    rw [f_X4_fitsBy_38_1_43_5] at h
    refine lv_iload hx hb dX4_fitsBy_5 (lv_at hl 4 rfl) ?_
    refine lv_bipush (v := (9 : Int32)) hx hb dX4_fitsBy_7 (by decide) ?_
    refine lv_icmp_gt (tgt := 36) hx hb dX4_fitsBy_9 (by decide) (fun c_1 => ?_) (fun c_1 => ?_)
    · have h := nb_t c_1 h
      refine lv_iload_n hx hb dX4_fitsBy_36 rfl (lv_at hl 3 rfl) ?_
      obtain ⟨rfl, rfl⟩ := nb_e2 h
      exact nb_iret hx hb hr hlk hP hS dX4_fitsBy_37
    · have h := nb_f c_1 h
      refine lv_aload_n hx hb dX4_fitsBy_12 rfl (lv_at hl 0 rfl) ?_
      refine lv_aload_n hx hb dX4_fitsBy_13 rfl (lv_at hl 1 rfl) ?_
      refine lv_aload_n hx hb dX4_fitsBy_14 rfl (lv_at hl 2 rfl) ?_
      refine lv_iload hx hb dX4_fitsBy_15 (lv_at hl 4 rfl) ?_
      obtain ⟨r_2, M_2, e_2, h⟩ := nb_pE h
      refine nb_callV (n := 3) (As := [.ref (ad 1), .ref (ad 43), .int x4]) (rest := []) hx hb hml hown hts hK hZ hP hS (k_X4_tellsRisks_38_1_43 had M N x4 e_2) gX4_fitsBy_X4_tellsRisks rfl (by decide +kernel) (nb_rm (Nat.le_of_ble_eq_true rfl) (Nat.le_of_ble_eq_true rfl)) nb_a38 rfl rfl rfl hl.1 rfl (Nat.le_of_ble_eq_true rfl) dX4_fitsBy_17 (fun H locs hP hS => ?_)
      refine W.eq (g2 := F0 m 20 ls [.int r_2]) rfl ?_
      refine lv_if_eq (tgt := 30) hx hb dX4_fitsBy_20 (by decide) (fun c_3 => ?_) (fun c_3 => ?_)
      · have h := nb_t c_3 h
        refine lv_iinc (v := x4 + 1) (lv' := [(4, .int (x4 + 1)), (0, .ref (ad 38)), (1, .ref (ad 1)), (2, .ref (ad 43)), (3, .int x3)]) hx hb dX4_fitsBy_30 hl (k := 4) rfl (congrArg (HAdd.hAdd x4) (by decide)) (by decide) rfl (fun ls hl => ?_)
        refine lv_goto (tgt := 5) hx hb dX4_fitsBy_33 (by decide) ?_
        exact ih _ _ _ h _ _ hP hS _ (lv_sub hl [1, 2, 3, 4, 0] rfl)
      · have h := nb_f c_3 h
        refine lv_iload_n hx hb dX4_fitsBy_23 rfl (lv_at hl 3 rfl) ?_
        refine lv_iconst (v := (1 : Int32)) hx hb dX4_fitsBy_24 (by decide) ?_
        refine lv_iload hx hb dX4_fitsBy_25 (lv_at hl 4 rfl) ?_
        refine lv_ishl hx hb dX4_fitsBy_27 ?_
        refine lv_ior hx hb dX4_fitsBy_28 ?_
        refine lv_topi (fun v_4 e_4 => ?_)
        have h := nb_nA e_4 h
        refine lv_istore_n (lv' := [(3, .int v_4), (0, .ref (ad 38)), (1, .ref (ad 1)), (2, .ref (ad 43)), (4, .int x4)]) hx hb dX4_fitsBy_29 rfl hl (by decide) rfl (fun ls hl => ?_)
        refine lv_iinc (v := x4 + 1) (lv' := [(4, .int (x4 + 1)), (3, .int v_4), (0, .ref (ad 38)), (1, .ref (ad 1)), (2, .ref (ad 43))]) hx hb dX4_fitsBy_30 hl (k := 4) rfl (congrArg (HAdd.hAdd x4) (by decide)) (by decide) rfl (fun ls hl => ?_)
        refine lv_goto (tgt := 5) hx hb dX4_fitsBy_33 (by decide) ?_
        exact ih _ _ _ h _ _ hP hS _ (lv_sub hl [2, 3, 4, 1, 0] rfl)
set_option maxHeartbeats 4000000 in
set_option maxRecDepth 100000 in
theorem k_X4_fitsBy_38_1_43 {r : Int32} {M' : nb_M} (had : nb_AD ad b0) (M N : nb_M) (h : f_X4_fitsBy_38_1_43 M = some (r, M')) : nb_C l D ad ca b0 yX4_fitsBy wsX4_fitsBy 5 [.ref (ad 38), .ref (ad 1), .ref (ad 43)] M N (some (.int r)) M' N := by
  refine nb_of (cc := cX4_fitsBy) (maxL := 5) (ret := (some .int)) (own := RX4) (by decide +kernel) rfl rfl (Nat.le_of_ble_eq_true rfl) ?_
  intro p e s m args below meth c ls X hP hS hl
  have hl : lv_has ls 5 [(0, .ref (ad 38)), (1, .ref (ad 1)), (2, .ref (ad 43))] := hl
  obtain ⟨hx, hb, hml, hown, hts, hr, hlk, hK, hZ⟩ := id X
  unfold f_X4_fitsBy_38_1_43 at h
  refine lv_iconst (v := (0 : Int32)) hx hb dX4_fitsBy_0 (by decide) ?_
  refine lv_istore_n (lv' := [(3, .int (0 : Int32)), (0, .ref (ad 38)), (1, .ref (ad 1)), (2, .ref (ad 43))]) hx hb dX4_fitsBy_1 rfl hl (by decide) rfl (fun ls hl => ?_)
  refine lv_iconst (v := (0 : Int32)) hx hb dX4_fitsBy_2 (by decide) ?_
  refine lv_istore (lv' := [(4, .int (0 : Int32)), (3, .int (0 : Int32)), (0, .ref (ad 38)), (1, .ref (ad 1)), (2, .ref (ad 43))]) hx hb dX4_fitsBy_3 hl (by decide) rfl (fun ls hl => ?_)
  exact w_X4_fitsBy_38_1_43_5 had X nb_F _ _ _ h _ _ hP hS _ (lv_sub hl [2, 3, 4, 1, 0] rfl)
set_option maxHeartbeats 4000000 in
set_option maxRecDepth 100000 in
theorem w_X6_lowestIn_2 {N : nb_M} {M : nb_M} {r : Int32} (had : nb_AD ad b0) (X : nb_X p s m args meth c cX6_lowestIn 2 RX6 (some .int) wsX6_lowestIn D ca b0) : ∀ (n : Nat) (x0 : Int32) (x1 : Int32), f_X6_lowestIn_2 n x0 x1 = some r → ∀ (H : Heap) (locs : List Loc), va_P D vwCl (nb_w ad ca M N) H → va_S (fun q => b0 ≤ q) s.heap H locs → ∀ ls : Array Slot, lv_has ls 2 [(0, .int x0), (1, .int x1)] → W p l e (nb_R 0) s m args below meth c H locs 0 0 (nb_Q below args s D ad ca b0 (some (.int r)) M N) (F0 m 2 ls []) := by
  obtain ⟨hx, hb, hml, hown, hts, hr, hlk, hK, hZ⟩ := id X
  intro n
  induction n with
  | zero =>
    intro x0 x1 h
    rw [f_X6_lowestIn_2] at h
    cases h
  | succ n ih =>
    intro x0 x1 h H locs hP hS ls hl
    rw [f_X6_lowestIn_2] at h
    refine lv_iload_n hx hb dX6_lowestIn_2 rfl (lv_at hl 1 rfl) ?_
    refine lv_bipush (v := (31 : Int32)) hx hb dX6_lowestIn_3 (by decide) ?_
    refine lv_icmp_ge (tgt := 22) hx hb dX6_lowestIn_5 (by decide) (fun c_1 => ?_) (fun c_1 => ?_)
    · have h := nb_t c_1 h
      refine lv_iload_n hx hb dX6_lowestIn_22 rfl (lv_at hl 1 rfl) ?_
      obtain rfl := nb_e1 h
      exact nb_iret hx hb hr hlk hP hS dX6_lowestIn_23
    · have h := nb_f c_1 h
      refine lv_iload_n hx hb dX6_lowestIn_8 rfl (lv_at hl 0 rfl) ?_
      refine lv_iload_n hx hb dX6_lowestIn_9 rfl (lv_at hl 1 rfl) ?_
      refine lv_ishr hx hb dX6_lowestIn_10 ?_
      refine lv_iconst (v := (1 : Int32)) hx hb dX6_lowestIn_11 (by decide) ?_
      refine lv_iand hx hb dX6_lowestIn_12 ?_
      refine lv_if_ne (tgt := 22) hx hb dX6_lowestIn_13 (by decide) (fun c_2 => ?_) (fun c_2 => ?_)
      · have h := nb_f c_2 h
        refine lv_iload_n hx hb dX6_lowestIn_22 rfl (lv_at hl 1 rfl) ?_
        obtain rfl := nb_e1 h
        exact nb_iret hx hb hr hlk hP hS dX6_lowestIn_23
      · have h := nb_t c_2 h
        refine lv_iinc (v := x1 + 1) (lv' := [(1, .int (x1 + 1)), (0, .int x0)]) hx hb dX6_lowestIn_16 hl (k := 1) rfl (congrArg (HAdd.hAdd x1) (by decide)) (by decide) rfl (fun ls hl => ?_)
        refine lv_goto (tgt := 2) hx hb dX6_lowestIn_19 (by decide) ?_
        exact ih _ _ h _ _ hP hS _ (lv_sub hl [1, 0] rfl)
set_option maxHeartbeats 4000000 in
set_option maxRecDepth 100000 in
theorem k_X6_lowestIn {r : Int32} (had : nb_AD ad b0) (M N : nb_M) (p0 : Int32) (h : f_X6_lowestIn p0 = some r) : nb_C l D ad ca b0 yX6_lowestIn wsX6_lowestIn 0 [.int p0] M N (some (.int r)) M N := by
  refine nb_of (cc := cX6_lowestIn) (maxL := 2) (ret := (some .int)) (own := RX6) (by decide +kernel) rfl rfl (Nat.le_of_ble_eq_true rfl) ?_
  intro p e s m args below meth c ls X hP hS hl
  have hl : lv_has ls 2 [(0, .int p0)] := hl
  obtain ⟨hx, hb, hml, hown, hts, hr, hlk, hK, hZ⟩ := id X
  unfold f_X6_lowestIn at h
  refine lv_iconst (v := (0 : Int32)) hx hb dX6_lowestIn_0 (by decide) ?_
  refine lv_istore_n (lv' := [(1, .int (0 : Int32)), (0, .int p0)]) hx hb dX6_lowestIn_1 rfl hl (by decide) rfl (fun ls hl => ?_)
  exact w_X6_lowestIn_2 had X nb_F _ _ h _ _ hP hS _ (lv_sub hl [1, 0] rfl)
set_option maxHeartbeats 4000000 in
set_option maxRecDepth 100000 in
theorem k_X2_isMissing_45 (had : nb_AD ad b0) (M N : nb_M) : nb_C l D ad ca b0 yX2_isMissing wsX2_isMissing 0 [.ref (ad 45)] M N (some (.int (f_X2_isMissing_45 M))) M N := by
  obtain ⟨r, h⟩ : ∃ r, f_X2_isMissing_45 M = r := ⟨_, rfl⟩
  rw [h]
  refine nb_of (cc := cX2_isMissing) (maxL := 1) (ret := (some .boolean)) (own := RX2) (by decide +kernel) rfl rfl (Nat.le_of_ble_eq_true rfl) ?_
  intro p e s m args below meth c ls X hP hS hl
  have hl : lv_has ls 1 [(0, .ref (ad 45))] := hl
  obtain ⟨hx, hb, hml, hown, hts, hr, hlk, hK, hZ⟩ := id X
  have w_1 := hts (.fieldLink RX2 15 "NineBreakages$Sheet" "bits" "I") (by decide +kernel)
  have in2 : ∀ w ∈ u_ws RX2 TX2 3, w ∈ wsX2_isMissing := fun w q => List.mem_cons_of_mem _ (List.mem_append_right _ q)
  unfold f_X2_isMissing_45 at h
  refine lv_aload_n hx hb dX2_isMissing_0 rfl (lv_at hl 0 rfl) ?_
  refine va_get (v := .int (M.1 45 1)) (C := RX2) (T := TX2) (N := 3) hx hb hts in2 hown hK.1 hP 45 nb_a45 rfl 1 (by decide) w_1 (fun _ h9 => h9) rfl dX2_isMissing_1 ?_
  refine lv_if_ne (tgt := 11) hx hb dX2_isMissing_4 (by decide) (fun c_1 => ?_) (fun c_1 => ?_)
  · have h := nb_f c_1 h
    refine lv_iconst (v := (0 : Int32)) hx hb dX2_isMissing_11 (by decide) ?_
    obtain rfl := nb_e3 h
    exact nb_zret (by decide) hx hb hr hlk hP hS dX2_isMissing_12
  · have h := nb_t c_1 h
    refine lv_iconst (v := (1 : Int32)) hx hb dX2_isMissing_7 (by decide) ?_
    refine lv_goto (tgt := 12) hx hb dX2_isMissing_8 (by decide) ?_
    obtain rfl := nb_e3 h
    exact nb_zret (by decide) hx hb hr hlk hP hS dX2_isMissing_12
set_option maxHeartbeats 4000000 in
set_option maxRecDepth 100000 in
theorem w_X4_tellsRisks_38_1_45_3 {N : nb_M} {r : Int32} {M' : nb_M} (had : nb_AD ad b0) (X : nb_X p s m args meth c cX4_tellsRisks 5 RX4 (some .boolean) wsX4_tellsRisks D ca b0) : ∀ (n : Nat) (M : nb_M) (x3 : Int32) (x4 : Int32), f_X4_tellsRisks_38_1_45_3 n M x3 x4 = some (r, M') → ∀ (H : Heap) (locs : List Loc), va_P D vwCl (nb_w ad ca M N) H → va_S (fun q => b0 ≤ q) s.heap H locs → ∀ ls : Array Slot, lv_has ls 5 [(1, .ref (ad 1)), (2, .ref (ad 45)), (3, .int x3), (4, .int x4)] → W p l e (nb_R 4) s m args below meth c H locs 0 0 (nb_Q below args s D ad ca b0 (some (.int r)) M' N) (F0 m 3 ls []) := by
  obtain ⟨hx, hb, hml, hown, hts, hr, hlk, hK, hZ⟩ := id X
  have w_1 := hts (.fieldLink RX4 83 "NineBreakages$Sheet" "size" "I") (by decide +kernel)
  have in2 : ∀ w ∈ u_ws RX2 TX2 3, w ∈ wsX4_tellsRisks := fun w q => List.mem_cons_of_mem _ (List.mem_append_left _ (List.mem_append_left _ (List.mem_append_right _ q)))
  have w_3 := hts (.fieldLink RX4 15 "NineBreakages$House" "pieces" "I") (by decide +kernel)
  have in0 : ∀ w ∈ u_ws RX0 TX0 16, w ∈ wsX4_tellsRisks := fun w q => List.mem_cons_of_mem _ (List.mem_append_left _ (List.mem_append_right _ q))
  have w_5 := hts (.fieldLink RX4 88 "NineBreakages$Sheet" "numbers" "[I") (by decide +kernel)
  intro n
  induction n with
  | zero =>
    intro M x3 x4 h
    rw [f_X4_tellsRisks_38_1_45_3] at h
    cases h
  | succ n ih =>
    intro M x3 x4 h H locs hP hS ls hl
    rw [f_X4_tellsRisks_38_1_45_3] at h
    refine lv_iload hx hb dX4_tellsRisks_3 (lv_at hl 3 rfl) ?_
    refine lv_aload_n hx hb dX4_tellsRisks_5 rfl (lv_at hl 1 rfl) ?_
    refine va_get (v := .int (M.1 45 2)) (C := RX2) (T := TX2) (N := 3) hx hb hts in2 hown hK.1 hP 45 nb_a45 rfl 2 (by decide) w_1 (fun _ h9 => h9) rfl dX4_tellsRisks_6 ?_
    refine lv_icmp_ge (tgt := 46) hx hb dX4_tellsRisks_9 (by decide) (fun c_1 => ?_) (fun c_1 => ?_)
    · have h := nb_t c_1 h
      refine lv_iconst (v := (1 : Int32)) hx hb dX4_tellsRisks_46 (by decide) ?_
      obtain ⟨rfl, rfl⟩ := nb_e2 h
      exact nb_zret (by decide) hx hb hr hlk hP hS dX4_tellsRisks_47
    · have h := nb_f c_1 h
      refine lv_iload hx hb dX4_tellsRisks_12 (lv_at hl 3 rfl) ?_
      refine lv_aload_n hx hb dX4_tellsRisks_14 rfl (lv_at hl 0 rfl) ?_
      refine va_get (v := .int (M.1 1 6)) (C := RX0) (T := TX0) (N := 16) hx hb hts in0 hown hK.1 hP 1 nb_a1 rfl 6 (by decide) w_3 (fun _ h9 => h9) rfl dX4_tellsRisks_15 ?_
      refine lv_icmp_ge (tgt := 38) hx hb dX4_tellsRisks_18 (by decide) (fun c_2 => ?_) (fun c_2 => ?_)
      · have h := nb_t c_2 h
        refine lv_iconst (v := (0 : Int32)) hx hb dX4_tellsRisks_38 (by decide) ?_
        obtain ⟨rfl, rfl⟩ := nb_e2 h
        exact nb_zret (by decide) hx hb hr hlk hP hS dX4_tellsRisks_39
      · have h := nb_f c_2 h
        refine lv_aload_n hx hb dX4_tellsRisks_21 rfl (lv_at hl 1 rfl) ?_
        refine va_get (v := .ref (ad 46)) (C := RX2) (T := TX2) (N := 3) hx hb hts in2 hown hK.1 hP 45 nb_a45 rfl 0 (by decide) w_5 (fun _ h9 => h9) rfl dX4_tellsRisks_22 ?_
        refine lv_iload hx hb dX4_tellsRisks_25 (lv_at hl 3 rfl) ?_
        obtain ⟨c_3, h⟩ := nb_c h
        refine va_iald hx hb hK.1 hP 46 0 nb_a46 rfl c_3 dX4_tellsRisks_27 ?_
        refine lv_aload_n hx hb dX4_tellsRisks_28 rfl (lv_at hl 0 rfl) ?_
        refine lv_iload hx hb dX4_tellsRisks_29 (lv_at hl 3 rfl) ?_
        refine lv_iload_n hx hb dX4_tellsRisks_31 rfl (lv_at hl 2 rfl) ?_
        obtain ⟨r_4, M_4, e_4, h⟩ := nb_pE h
        refine nb_callV (n := 2) (As := [.int x4, .int x3]) (rest := [.int (M.1 46 x4.toNatClampNeg)]) hx hb hml hown hts hK hZ hP hS (k_X0_riskBy had M N x4 x3 e_4) gX4_tellsRisks_X0_riskBy rfl (by decide +kernel) (nb_rm (Nat.le_of_ble_eq_true rfl) (Nat.le_of_ble_eq_true rfl)) nb_a1 rfl rfl rfl hl.1 rfl (Nat.le_of_ble_eq_true rfl) dX4_tellsRisks_32 (fun H locs hP hS => ?_)
        refine W.eq (g2 := F0 m 35 ls [.int r_4, .int (M.1 46 x4.toNatClampNeg)]) rfl ?_
        refine lv_icmp_eq (tgt := 40) hx hb dX4_tellsRisks_35 (by decide) (fun c_5 => ?_) (fun c_5 => ?_)
        · have h := nb_t c_5 h
          refine lv_iinc (v := x4 + 1) (lv' := [(4, .int (x4 + 1)), (1, .ref (ad 1)), (2, .ref (ad 45)), (3, .int x3)]) hx hb dX4_tellsRisks_40 hl (k := 3) rfl (congrArg (HAdd.hAdd x4) (by decide)) (by decide) rfl (fun ls hl => ?_)
          refine lv_goto (tgt := 3) hx hb dX4_tellsRisks_43 (by decide) ?_
          exact ih _ _ _ h _ _ hP hS _ (lv_sub hl [1, 2, 3, 0] rfl)
        · have h := nb_f c_5 h
          refine lv_iconst (v := (0 : Int32)) hx hb dX4_tellsRisks_38 (by decide) ?_
          obtain ⟨rfl, rfl⟩ := nb_e2 h
          exact nb_zret (by decide) hx hb hr hlk hP hS dX4_tellsRisks_39
set_option maxHeartbeats 4000000 in
set_option maxRecDepth 100000 in
theorem k_X4_tellsRisks_38_1_45 {r : Int32} {M' : nb_M} (had : nb_AD ad b0) (M N : nb_M) (p0 : Int32) (h : f_X4_tellsRisks_38_1_45 M p0 = some (r, M')) : nb_C l D ad ca b0 yX4_tellsRisks wsX4_tellsRisks 4 [.ref (ad 38), .ref (ad 1), .ref (ad 45), .int p0] M N (some (.int r)) M' N := by
  refine nb_of (cc := cX4_tellsRisks) (maxL := 5) (ret := (some .boolean)) (own := RX4) (by decide +kernel) rfl rfl (Nat.le_of_ble_eq_true rfl) ?_
  intro p e s m args below meth c ls X hP hS hl
  have hl : lv_has ls 5 [(0, .ref (ad 38)), (1, .ref (ad 1)), (2, .ref (ad 45)), (3, .int p0)] := hl
  obtain ⟨hx, hb, hml, hown, hts, hr, hlk, hK, hZ⟩ := id X
  unfold f_X4_tellsRisks_38_1_45 at h
  refine lv_iconst (v := (0 : Int32)) hx hb dX4_tellsRisks_0 (by decide) ?_
  refine lv_istore (lv' := [(4, .int (0 : Int32)), (0, .ref (ad 38)), (1, .ref (ad 1)), (2, .ref (ad 45)), (3, .int p0)]) hx hb dX4_tellsRisks_1 hl (by decide) rfl (fun ls hl => ?_)
  exact w_X4_tellsRisks_38_1_45_3 had X nb_F _ _ _ h _ _ hP hS _ (lv_sub hl [2, 3, 4, 0] rfl)
set_option maxHeartbeats 4000000 in
set_option maxRecDepth 100000 in
theorem w_X4_fitsBy_38_1_45_5 {N : nb_M} {r : Int32} {M' : nb_M} (had : nb_AD ad b0) (X : nb_X p s m args meth c cX4_fitsBy 5 RX4 (some .int) wsX4_fitsBy D ca b0) : ∀ (n : Nat) (M : nb_M) (x3 : Int32) (x4 : Int32), f_X4_fitsBy_38_1_45_5 n M x3 x4 = some (r, M') → ∀ (H : Heap) (locs : List Loc), va_P D vwCl (nb_w ad ca M N) H → va_S (fun q => b0 ≤ q) s.heap H locs → ∀ ls : Array Slot, lv_has ls 5 [(0, .ref (ad 38)), (1, .ref (ad 1)), (2, .ref (ad 45)), (3, .int x3), (4, .int x4)] → W p l e (nb_R 5) s m args below meth c H locs 0 0 (nb_Q below args s D ad ca b0 (some (.int r)) M' N) (F0 m 5 ls []) := by
  obtain ⟨hx, hb, hml, hown, hts, hr, hlk, hK, hZ⟩ := id X
  intro n
  induction n with
  | zero =>
    intro M x3 x4 h
    rw [f_X4_fitsBy_38_1_45_5] at h
    cases h
  | succ n ih =>
    intro M x3 x4 h H locs hP hS ls hl
    rw [f_X4_fitsBy_38_1_45_5] at h
    refine lv_iload hx hb dX4_fitsBy_5 (lv_at hl 4 rfl) ?_
    refine lv_bipush (v := (9 : Int32)) hx hb dX4_fitsBy_7 (by decide) ?_
    refine lv_icmp_gt (tgt := 36) hx hb dX4_fitsBy_9 (by decide) (fun c_1 => ?_) (fun c_1 => ?_)
    · have h := nb_t c_1 h
      refine lv_iload_n hx hb dX4_fitsBy_36 rfl (lv_at hl 3 rfl) ?_
      obtain ⟨rfl, rfl⟩ := nb_e2 h
      exact nb_iret hx hb hr hlk hP hS dX4_fitsBy_37
    · have h := nb_f c_1 h
      refine lv_aload_n hx hb dX4_fitsBy_12 rfl (lv_at hl 0 rfl) ?_
      refine lv_aload_n hx hb dX4_fitsBy_13 rfl (lv_at hl 1 rfl) ?_
      refine lv_aload_n hx hb dX4_fitsBy_14 rfl (lv_at hl 2 rfl) ?_
      refine lv_iload hx hb dX4_fitsBy_15 (lv_at hl 4 rfl) ?_
      obtain ⟨r_2, M_2, e_2, h⟩ := nb_pE h
      refine nb_callV (n := 3) (As := [.ref (ad 1), .ref (ad 45), .int x4]) (rest := []) hx hb hml hown hts hK hZ hP hS (k_X4_tellsRisks_38_1_45 had M N x4 e_2) gX4_fitsBy_X4_tellsRisks rfl (by decide +kernel) (nb_rm (Nat.le_of_ble_eq_true rfl) (Nat.le_of_ble_eq_true rfl)) nb_a38 rfl rfl rfl hl.1 rfl (Nat.le_of_ble_eq_true rfl) dX4_fitsBy_17 (fun H locs hP hS => ?_)
      refine W.eq (g2 := F0 m 20 ls [.int r_2]) rfl ?_
      refine lv_if_eq (tgt := 30) hx hb dX4_fitsBy_20 (by decide) (fun c_3 => ?_) (fun c_3 => ?_)
      · have h := nb_t c_3 h
        refine lv_iinc (v := x4 + 1) (lv' := [(4, .int (x4 + 1)), (0, .ref (ad 38)), (1, .ref (ad 1)), (2, .ref (ad 45)), (3, .int x3)]) hx hb dX4_fitsBy_30 hl (k := 4) rfl (congrArg (HAdd.hAdd x4) (by decide)) (by decide) rfl (fun ls hl => ?_)
        refine lv_goto (tgt := 5) hx hb dX4_fitsBy_33 (by decide) ?_
        exact ih _ _ _ h _ _ hP hS _ (lv_sub hl [1, 2, 3, 4, 0] rfl)
      · have h := nb_f c_3 h
        refine lv_iload_n hx hb dX4_fitsBy_23 rfl (lv_at hl 3 rfl) ?_
        refine lv_iconst (v := (1 : Int32)) hx hb dX4_fitsBy_24 (by decide) ?_
        refine lv_iload hx hb dX4_fitsBy_25 (lv_at hl 4 rfl) ?_
        refine lv_ishl hx hb dX4_fitsBy_27 ?_
        refine lv_ior hx hb dX4_fitsBy_28 ?_
        refine lv_topi (fun v_4 e_4 => ?_)
        have h := nb_nA e_4 h
        refine lv_istore_n (lv' := [(3, .int v_4), (0, .ref (ad 38)), (1, .ref (ad 1)), (2, .ref (ad 45)), (4, .int x4)]) hx hb dX4_fitsBy_29 rfl hl (by decide) rfl (fun ls hl => ?_)
        refine lv_iinc (v := x4 + 1) (lv' := [(4, .int (x4 + 1)), (3, .int v_4), (0, .ref (ad 38)), (1, .ref (ad 1)), (2, .ref (ad 45))]) hx hb dX4_fitsBy_30 hl (k := 4) rfl (congrArg (HAdd.hAdd x4) (by decide)) (by decide) rfl (fun ls hl => ?_)
        refine lv_goto (tgt := 5) hx hb dX4_fitsBy_33 (by decide) ?_
        exact ih _ _ _ h _ _ hP hS _ (lv_sub hl [2, 3, 4, 1, 0] rfl)
set_option maxHeartbeats 4000000 in
set_option maxRecDepth 100000 in
theorem k_X4_fitsBy_38_1_45 {r : Int32} {M' : nb_M} (had : nb_AD ad b0) (M N : nb_M) (h : f_X4_fitsBy_38_1_45 M = some (r, M')) : nb_C l D ad ca b0 yX4_fitsBy wsX4_fitsBy 5 [.ref (ad 38), .ref (ad 1), .ref (ad 45)] M N (some (.int r)) M' N := by
  refine nb_of (cc := cX4_fitsBy) (maxL := 5) (ret := (some .int)) (own := RX4) (by decide +kernel) rfl rfl (Nat.le_of_ble_eq_true rfl) ?_
  intro p e s m args below meth c ls X hP hS hl
  have hl : lv_has ls 5 [(0, .ref (ad 38)), (1, .ref (ad 1)), (2, .ref (ad 45))] := hl
  obtain ⟨hx, hb, hml, hown, hts, hr, hlk, hK, hZ⟩ := id X
  unfold f_X4_fitsBy_38_1_45 at h
  refine lv_iconst (v := (0 : Int32)) hx hb dX4_fitsBy_0 (by decide) ?_
  refine lv_istore_n (lv' := [(3, .int (0 : Int32)), (0, .ref (ad 38)), (1, .ref (ad 1)), (2, .ref (ad 45))]) hx hb dX4_fitsBy_1 rfl hl (by decide) rfl (fun ls hl => ?_)
  refine lv_iconst (v := (0 : Int32)) hx hb dX4_fitsBy_2 (by decide) ?_
  refine lv_istore (lv' := [(4, .int (0 : Int32)), (3, .int (0 : Int32)), (0, .ref (ad 38)), (1, .ref (ad 1)), (2, .ref (ad 45))]) hx hb dX4_fitsBy_3 hl (by decide) rfl (fun ls hl => ?_)
  exact w_X4_fitsBy_38_1_45_5 had X nb_F _ _ _ h _ _ hP hS _ (lv_sub hl [2, 3, 4, 1, 0] rfl)
set_option maxHeartbeats 4000000 in
set_option maxRecDepth 100000 in
theorem k_X2_isMissing_47 (had : nb_AD ad b0) (M N : nb_M) : nb_C l D ad ca b0 yX2_isMissing wsX2_isMissing 0 [.ref (ad 47)] M N (some (.int (f_X2_isMissing_47 M))) M N := by
  obtain ⟨r, h⟩ : ∃ r, f_X2_isMissing_47 M = r := ⟨_, rfl⟩
  rw [h]
  refine nb_of (cc := cX2_isMissing) (maxL := 1) (ret := (some .boolean)) (own := RX2) (by decide +kernel) rfl rfl (Nat.le_of_ble_eq_true rfl) ?_
  intro p e s m args below meth c ls X hP hS hl
  have hl : lv_has ls 1 [(0, .ref (ad 47))] := hl
  obtain ⟨hx, hb, hml, hown, hts, hr, hlk, hK, hZ⟩ := id X
  have w_1 := hts (.fieldLink RX2 15 "NineBreakages$Sheet" "bits" "I") (by decide +kernel)
  have in2 : ∀ w ∈ u_ws RX2 TX2 3, w ∈ wsX2_isMissing := fun w q => List.mem_cons_of_mem _ (List.mem_append_right _ q)
  unfold f_X2_isMissing_47 at h
  refine lv_aload_n hx hb dX2_isMissing_0 rfl (lv_at hl 0 rfl) ?_
  refine va_get (v := .int (M.1 47 1)) (C := RX2) (T := TX2) (N := 3) hx hb hts in2 hown hK.1 hP 47 nb_a47 rfl 1 (by decide) w_1 (fun _ h9 => h9) rfl dX2_isMissing_1 ?_
  refine lv_if_ne (tgt := 11) hx hb dX2_isMissing_4 (by decide) (fun c_1 => ?_) (fun c_1 => ?_)
  · have h := nb_f c_1 h
    refine lv_iconst (v := (0 : Int32)) hx hb dX2_isMissing_11 (by decide) ?_
    obtain rfl := nb_e3 h
    exact nb_zret (by decide) hx hb hr hlk hP hS dX2_isMissing_12
  · have h := nb_t c_1 h
    refine lv_iconst (v := (1 : Int32)) hx hb dX2_isMissing_7 (by decide) ?_
    refine lv_goto (tgt := 12) hx hb dX2_isMissing_8 (by decide) ?_
    obtain rfl := nb_e3 h
    exact nb_zret (by decide) hx hb hr hlk hP hS dX2_isMissing_12
set_option maxHeartbeats 4000000 in
set_option maxRecDepth 100000 in
theorem w_X4_tellsRisks_38_1_47_3 {N : nb_M} {r : Int32} {M' : nb_M} (had : nb_AD ad b0) (X : nb_X p s m args meth c cX4_tellsRisks 5 RX4 (some .boolean) wsX4_tellsRisks D ca b0) : ∀ (n : Nat) (M : nb_M) (x3 : Int32) (x4 : Int32), f_X4_tellsRisks_38_1_47_3 n M x3 x4 = some (r, M') → ∀ (H : Heap) (locs : List Loc), va_P D vwCl (nb_w ad ca M N) H → va_S (fun q => b0 ≤ q) s.heap H locs → ∀ ls : Array Slot, lv_has ls 5 [(1, .ref (ad 1)), (2, .ref (ad 47)), (3, .int x3), (4, .int x4)] → W p l e (nb_R 4) s m args below meth c H locs 0 0 (nb_Q below args s D ad ca b0 (some (.int r)) M' N) (F0 m 3 ls []) := by
  obtain ⟨hx, hb, hml, hown, hts, hr, hlk, hK, hZ⟩ := id X
  have w_1 := hts (.fieldLink RX4 83 "NineBreakages$Sheet" "size" "I") (by decide +kernel)
  have in2 : ∀ w ∈ u_ws RX2 TX2 3, w ∈ wsX4_tellsRisks := fun w q => List.mem_cons_of_mem _ (List.mem_append_left _ (List.mem_append_left _ (List.mem_append_right _ q)))
  have w_3 := hts (.fieldLink RX4 15 "NineBreakages$House" "pieces" "I") (by decide +kernel)
  have in0 : ∀ w ∈ u_ws RX0 TX0 16, w ∈ wsX4_tellsRisks := fun w q => List.mem_cons_of_mem _ (List.mem_append_left _ (List.mem_append_right _ q))
  have w_5 := hts (.fieldLink RX4 88 "NineBreakages$Sheet" "numbers" "[I") (by decide +kernel)
  intro n
  induction n with
  | zero =>
    intro M x3 x4 h
    rw [f_X4_tellsRisks_38_1_47_3] at h
    cases h
  | succ n ih =>
    intro M x3 x4 h H locs hP hS ls hl
    rw [f_X4_tellsRisks_38_1_47_3] at h
    refine lv_iload hx hb dX4_tellsRisks_3 (lv_at hl 3 rfl) ?_
    refine lv_aload_n hx hb dX4_tellsRisks_5 rfl (lv_at hl 1 rfl) ?_
    refine va_get (v := .int (M.1 47 2)) (C := RX2) (T := TX2) (N := 3) hx hb hts in2 hown hK.1 hP 47 nb_a47 rfl 2 (by decide) w_1 (fun _ h9 => h9) rfl dX4_tellsRisks_6 ?_
    refine lv_icmp_ge (tgt := 46) hx hb dX4_tellsRisks_9 (by decide) (fun c_1 => ?_) (fun c_1 => ?_)
    · have h := nb_t c_1 h
      refine lv_iconst (v := (1 : Int32)) hx hb dX4_tellsRisks_46 (by decide) ?_
      obtain ⟨rfl, rfl⟩ := nb_e2 h
      exact nb_zret (by decide) hx hb hr hlk hP hS dX4_tellsRisks_47
    · have h := nb_f c_1 h
      refine lv_iload hx hb dX4_tellsRisks_12 (lv_at hl 3 rfl) ?_
      refine lv_aload_n hx hb dX4_tellsRisks_14 rfl (lv_at hl 0 rfl) ?_
      refine va_get (v := .int (M.1 1 6)) (C := RX0) (T := TX0) (N := 16) hx hb hts in0 hown hK.1 hP 1 nb_a1 rfl 6 (by decide) w_3 (fun _ h9 => h9) rfl dX4_tellsRisks_15 ?_
      refine lv_icmp_ge (tgt := 38) hx hb dX4_tellsRisks_18 (by decide) (fun c_2 => ?_) (fun c_2 => ?_)
      · have h := nb_t c_2 h
        refine lv_iconst (v := (0 : Int32)) hx hb dX4_tellsRisks_38 (by decide) ?_
        obtain ⟨rfl, rfl⟩ := nb_e2 h
        exact nb_zret (by decide) hx hb hr hlk hP hS dX4_tellsRisks_39
      · have h := nb_f c_2 h
        refine lv_aload_n hx hb dX4_tellsRisks_21 rfl (lv_at hl 1 rfl) ?_
        refine va_get (v := .ref (ad 48)) (C := RX2) (T := TX2) (N := 3) hx hb hts in2 hown hK.1 hP 47 nb_a47 rfl 0 (by decide) w_5 (fun _ h9 => h9) rfl dX4_tellsRisks_22 ?_
        refine lv_iload hx hb dX4_tellsRisks_25 (lv_at hl 3 rfl) ?_
        obtain ⟨c_3, h⟩ := nb_c h
        refine va_iald hx hb hK.1 hP 48 0 nb_a48 rfl c_3 dX4_tellsRisks_27 ?_
        refine lv_aload_n hx hb dX4_tellsRisks_28 rfl (lv_at hl 0 rfl) ?_
        refine lv_iload hx hb dX4_tellsRisks_29 (lv_at hl 3 rfl) ?_
        refine lv_iload_n hx hb dX4_tellsRisks_31 rfl (lv_at hl 2 rfl) ?_
        obtain ⟨r_4, M_4, e_4, h⟩ := nb_pE h
        refine nb_callV (n := 2) (As := [.int x4, .int x3]) (rest := [.int (M.1 48 x4.toNatClampNeg)]) hx hb hml hown hts hK hZ hP hS (k_X0_riskBy had M N x4 x3 e_4) gX4_tellsRisks_X0_riskBy rfl (by decide +kernel) (nb_rm (Nat.le_of_ble_eq_true rfl) (Nat.le_of_ble_eq_true rfl)) nb_a1 rfl rfl rfl hl.1 rfl (Nat.le_of_ble_eq_true rfl) dX4_tellsRisks_32 (fun H locs hP hS => ?_)
        refine W.eq (g2 := F0 m 35 ls [.int r_4, .int (M.1 48 x4.toNatClampNeg)]) rfl ?_
        refine lv_icmp_eq (tgt := 40) hx hb dX4_tellsRisks_35 (by decide) (fun c_5 => ?_) (fun c_5 => ?_)
        · have h := nb_t c_5 h
          refine lv_iinc (v := x4 + 1) (lv' := [(4, .int (x4 + 1)), (1, .ref (ad 1)), (2, .ref (ad 47)), (3, .int x3)]) hx hb dX4_tellsRisks_40 hl (k := 3) rfl (congrArg (HAdd.hAdd x4) (by decide)) (by decide) rfl (fun ls hl => ?_)
          refine lv_goto (tgt := 3) hx hb dX4_tellsRisks_43 (by decide) ?_
          exact ih _ _ _ h _ _ hP hS _ (lv_sub hl [1, 2, 3, 0] rfl)
        · have h := nb_f c_5 h
          refine lv_iconst (v := (0 : Int32)) hx hb dX4_tellsRisks_38 (by decide) ?_
          obtain ⟨rfl, rfl⟩ := nb_e2 h
          exact nb_zret (by decide) hx hb hr hlk hP hS dX4_tellsRisks_39
set_option maxHeartbeats 4000000 in
set_option maxRecDepth 100000 in
theorem k_X4_tellsRisks_38_1_47 {r : Int32} {M' : nb_M} (had : nb_AD ad b0) (M N : nb_M) (p0 : Int32) (h : f_X4_tellsRisks_38_1_47 M p0 = some (r, M')) : nb_C l D ad ca b0 yX4_tellsRisks wsX4_tellsRisks 4 [.ref (ad 38), .ref (ad 1), .ref (ad 47), .int p0] M N (some (.int r)) M' N := by
  refine nb_of (cc := cX4_tellsRisks) (maxL := 5) (ret := (some .boolean)) (own := RX4) (by decide +kernel) rfl rfl (Nat.le_of_ble_eq_true rfl) ?_
  intro p e s m args below meth c ls X hP hS hl
  have hl : lv_has ls 5 [(0, .ref (ad 38)), (1, .ref (ad 1)), (2, .ref (ad 47)), (3, .int p0)] := hl
  obtain ⟨hx, hb, hml, hown, hts, hr, hlk, hK, hZ⟩ := id X
  unfold f_X4_tellsRisks_38_1_47 at h
  refine lv_iconst (v := (0 : Int32)) hx hb dX4_tellsRisks_0 (by decide) ?_
  refine lv_istore (lv' := [(4, .int (0 : Int32)), (0, .ref (ad 38)), (1, .ref (ad 1)), (2, .ref (ad 47)), (3, .int p0)]) hx hb dX4_tellsRisks_1 hl (by decide) rfl (fun ls hl => ?_)
  exact w_X4_tellsRisks_38_1_47_3 had X nb_F _ _ _ h _ _ hP hS _ (lv_sub hl [2, 3, 4, 0] rfl)
set_option maxHeartbeats 4000000 in
set_option maxRecDepth 100000 in
theorem w_X4_fitsBy_38_1_47_5 {N : nb_M} {r : Int32} {M' : nb_M} (had : nb_AD ad b0) (X : nb_X p s m args meth c cX4_fitsBy 5 RX4 (some .int) wsX4_fitsBy D ca b0) : ∀ (n : Nat) (M : nb_M) (x3 : Int32) (x4 : Int32), f_X4_fitsBy_38_1_47_5 n M x3 x4 = some (r, M') → ∀ (H : Heap) (locs : List Loc), va_P D vwCl (nb_w ad ca M N) H → va_S (fun q => b0 ≤ q) s.heap H locs → ∀ ls : Array Slot, lv_has ls 5 [(0, .ref (ad 38)), (1, .ref (ad 1)), (2, .ref (ad 47)), (3, .int x3), (4, .int x4)] → W p l e (nb_R 5) s m args below meth c H locs 0 0 (nb_Q below args s D ad ca b0 (some (.int r)) M' N) (F0 m 5 ls []) := by
  obtain ⟨hx, hb, hml, hown, hts, hr, hlk, hK, hZ⟩ := id X
  intro n
  induction n with
  | zero =>
    intro M x3 x4 h
    rw [f_X4_fitsBy_38_1_47_5] at h
    cases h
  | succ n ih =>
    intro M x3 x4 h H locs hP hS ls hl
    rw [f_X4_fitsBy_38_1_47_5] at h
    refine lv_iload hx hb dX4_fitsBy_5 (lv_at hl 4 rfl) ?_
    refine lv_bipush (v := (9 : Int32)) hx hb dX4_fitsBy_7 (by decide) ?_
    refine lv_icmp_gt (tgt := 36) hx hb dX4_fitsBy_9 (by decide) (fun c_1 => ?_) (fun c_1 => ?_)
    · have h := nb_t c_1 h
      refine lv_iload_n hx hb dX4_fitsBy_36 rfl (lv_at hl 3 rfl) ?_
      obtain ⟨rfl, rfl⟩ := nb_e2 h
      exact nb_iret hx hb hr hlk hP hS dX4_fitsBy_37
    · have h := nb_f c_1 h
      refine lv_aload_n hx hb dX4_fitsBy_12 rfl (lv_at hl 0 rfl) ?_
      refine lv_aload_n hx hb dX4_fitsBy_13 rfl (lv_at hl 1 rfl) ?_
      refine lv_aload_n hx hb dX4_fitsBy_14 rfl (lv_at hl 2 rfl) ?_
      refine lv_iload hx hb dX4_fitsBy_15 (lv_at hl 4 rfl) ?_
      obtain ⟨r_2, M_2, e_2, h⟩ := nb_pE h
      refine nb_callV (n := 3) (As := [.ref (ad 1), .ref (ad 47), .int x4]) (rest := []) hx hb hml hown hts hK hZ hP hS (k_X4_tellsRisks_38_1_47 had M N x4 e_2) gX4_fitsBy_X4_tellsRisks rfl (by decide +kernel) (nb_rm (Nat.le_of_ble_eq_true rfl) (Nat.le_of_ble_eq_true rfl)) nb_a38 rfl rfl rfl hl.1 rfl (Nat.le_of_ble_eq_true rfl) dX4_fitsBy_17 (fun H locs hP hS => ?_)
      refine W.eq (g2 := F0 m 20 ls [.int r_2]) rfl ?_
      refine lv_if_eq (tgt := 30) hx hb dX4_fitsBy_20 (by decide) (fun c_3 => ?_) (fun c_3 => ?_)
      · have h := nb_t c_3 h
        refine lv_iinc (v := x4 + 1) (lv' := [(4, .int (x4 + 1)), (0, .ref (ad 38)), (1, .ref (ad 1)), (2, .ref (ad 47)), (3, .int x3)]) hx hb dX4_fitsBy_30 hl (k := 4) rfl (congrArg (HAdd.hAdd x4) (by decide)) (by decide) rfl (fun ls hl => ?_)
        refine lv_goto (tgt := 5) hx hb dX4_fitsBy_33 (by decide) ?_
        exact ih _ _ _ h _ _ hP hS _ (lv_sub hl [1, 2, 3, 4, 0] rfl)
      · have h := nb_f c_3 h
        refine lv_iload_n hx hb dX4_fitsBy_23 rfl (lv_at hl 3 rfl) ?_
        refine lv_iconst (v := (1 : Int32)) hx hb dX4_fitsBy_24 (by decide) ?_
        refine lv_iload hx hb dX4_fitsBy_25 (lv_at hl 4 rfl) ?_
        refine lv_ishl hx hb dX4_fitsBy_27 ?_
        refine lv_ior hx hb dX4_fitsBy_28 ?_
        refine lv_topi (fun v_4 e_4 => ?_)
        have h := nb_nA e_4 h
        refine lv_istore_n (lv' := [(3, .int v_4), (0, .ref (ad 38)), (1, .ref (ad 1)), (2, .ref (ad 47)), (4, .int x4)]) hx hb dX4_fitsBy_29 rfl hl (by decide) rfl (fun ls hl => ?_)
        refine lv_iinc (v := x4 + 1) (lv' := [(4, .int (x4 + 1)), (3, .int v_4), (0, .ref (ad 38)), (1, .ref (ad 1)), (2, .ref (ad 47))]) hx hb dX4_fitsBy_30 hl (k := 4) rfl (congrArg (HAdd.hAdd x4) (by decide)) (by decide) rfl (fun ls hl => ?_)
        refine lv_goto (tgt := 5) hx hb dX4_fitsBy_33 (by decide) ?_
        exact ih _ _ _ h _ _ hP hS _ (lv_sub hl [2, 3, 4, 1, 0] rfl)
set_option maxHeartbeats 4000000 in
set_option maxRecDepth 100000 in
theorem k_X4_fitsBy_38_1_47 {r : Int32} {M' : nb_M} (had : nb_AD ad b0) (M N : nb_M) (h : f_X4_fitsBy_38_1_47 M = some (r, M')) : nb_C l D ad ca b0 yX4_fitsBy wsX4_fitsBy 5 [.ref (ad 38), .ref (ad 1), .ref (ad 47)] M N (some (.int r)) M' N := by
  refine nb_of (cc := cX4_fitsBy) (maxL := 5) (ret := (some .int)) (own := RX4) (by decide +kernel) rfl rfl (Nat.le_of_ble_eq_true rfl) ?_
  intro p e s m args below meth c ls X hP hS hl
  have hl : lv_has ls 5 [(0, .ref (ad 38)), (1, .ref (ad 1)), (2, .ref (ad 47))] := hl
  obtain ⟨hx, hb, hml, hown, hts, hr, hlk, hK, hZ⟩ := id X
  unfold f_X4_fitsBy_38_1_47 at h
  refine lv_iconst (v := (0 : Int32)) hx hb dX4_fitsBy_0 (by decide) ?_
  refine lv_istore_n (lv' := [(3, .int (0 : Int32)), (0, .ref (ad 38)), (1, .ref (ad 1)), (2, .ref (ad 47))]) hx hb dX4_fitsBy_1 rfl hl (by decide) rfl (fun ls hl => ?_)
  refine lv_iconst (v := (0 : Int32)) hx hb dX4_fitsBy_2 (by decide) ?_
  refine lv_istore (lv' := [(4, .int (0 : Int32)), (3, .int (0 : Int32)), (0, .ref (ad 38)), (1, .ref (ad 1)), (2, .ref (ad 47))]) hx hb dX4_fitsBy_3 hl (by decide) rfl (fun ls hl => ?_)
  exact w_X4_fitsBy_38_1_47_5 had X nb_F _ _ _ h _ _ hP hS _ (lv_sub hl [2, 3, 4, 1, 0] rfl)
set_option maxHeartbeats 4000000 in
set_option maxRecDepth 100000 in
theorem k_X2_isMissing_49 (had : nb_AD ad b0) (M N : nb_M) : nb_C l D ad ca b0 yX2_isMissing wsX2_isMissing 0 [.ref (ad 49)] M N (some (.int (f_X2_isMissing_49 M))) M N := by
  obtain ⟨r, h⟩ : ∃ r, f_X2_isMissing_49 M = r := ⟨_, rfl⟩
  rw [h]
  refine nb_of (cc := cX2_isMissing) (maxL := 1) (ret := (some .boolean)) (own := RX2) (by decide +kernel) rfl rfl (Nat.le_of_ble_eq_true rfl) ?_
  intro p e s m args below meth c ls X hP hS hl
  have hl : lv_has ls 1 [(0, .ref (ad 49))] := hl
  obtain ⟨hx, hb, hml, hown, hts, hr, hlk, hK, hZ⟩ := id X
  have w_1 := hts (.fieldLink RX2 15 "NineBreakages$Sheet" "bits" "I") (by decide +kernel)
  have in2 : ∀ w ∈ u_ws RX2 TX2 3, w ∈ wsX2_isMissing := fun w q => List.mem_cons_of_mem _ (List.mem_append_right _ q)
  unfold f_X2_isMissing_49 at h
  refine lv_aload_n hx hb dX2_isMissing_0 rfl (lv_at hl 0 rfl) ?_
  refine va_get (v := .int (M.1 49 1)) (C := RX2) (T := TX2) (N := 3) hx hb hts in2 hown hK.1 hP 49 nb_a49 rfl 1 (by decide) w_1 (fun _ h9 => h9) rfl dX2_isMissing_1 ?_
  refine lv_if_ne (tgt := 11) hx hb dX2_isMissing_4 (by decide) (fun c_1 => ?_) (fun c_1 => ?_)
  · have h := nb_f c_1 h
    refine lv_iconst (v := (0 : Int32)) hx hb dX2_isMissing_11 (by decide) ?_
    obtain rfl := nb_e3 h
    exact nb_zret (by decide) hx hb hr hlk hP hS dX2_isMissing_12
  · have h := nb_t c_1 h
    refine lv_iconst (v := (1 : Int32)) hx hb dX2_isMissing_7 (by decide) ?_
    refine lv_goto (tgt := 12) hx hb dX2_isMissing_8 (by decide) ?_
    obtain rfl := nb_e3 h
    exact nb_zret (by decide) hx hb hr hlk hP hS dX2_isMissing_12
set_option maxHeartbeats 4000000 in
set_option maxRecDepth 100000 in
theorem w_X4_tellsRisks_38_1_49_3 {N : nb_M} {r : Int32} {M' : nb_M} (had : nb_AD ad b0) (X : nb_X p s m args meth c cX4_tellsRisks 5 RX4 (some .boolean) wsX4_tellsRisks D ca b0) : ∀ (n : Nat) (M : nb_M) (x3 : Int32) (x4 : Int32), f_X4_tellsRisks_38_1_49_3 n M x3 x4 = some (r, M') → ∀ (H : Heap) (locs : List Loc), va_P D vwCl (nb_w ad ca M N) H → va_S (fun q => b0 ≤ q) s.heap H locs → ∀ ls : Array Slot, lv_has ls 5 [(1, .ref (ad 1)), (2, .ref (ad 49)), (3, .int x3), (4, .int x4)] → W p l e (nb_R 4) s m args below meth c H locs 0 0 (nb_Q below args s D ad ca b0 (some (.int r)) M' N) (F0 m 3 ls []) := by
  obtain ⟨hx, hb, hml, hown, hts, hr, hlk, hK, hZ⟩ := id X
  have w_1 := hts (.fieldLink RX4 83 "NineBreakages$Sheet" "size" "I") (by decide +kernel)
  have in2 : ∀ w ∈ u_ws RX2 TX2 3, w ∈ wsX4_tellsRisks := fun w q => List.mem_cons_of_mem _ (List.mem_append_left _ (List.mem_append_left _ (List.mem_append_right _ q)))
  have w_3 := hts (.fieldLink RX4 15 "NineBreakages$House" "pieces" "I") (by decide +kernel)
  have in0 : ∀ w ∈ u_ws RX0 TX0 16, w ∈ wsX4_tellsRisks := fun w q => List.mem_cons_of_mem _ (List.mem_append_left _ (List.mem_append_right _ q))
  have w_5 := hts (.fieldLink RX4 88 "NineBreakages$Sheet" "numbers" "[I") (by decide +kernel)
  intro n
  induction n with
  | zero =>
    intro M x3 x4 h
    rw [f_X4_tellsRisks_38_1_49_3] at h
    cases h
  | succ n ih =>
    intro M x3 x4 h H locs hP hS ls hl
    rw [f_X4_tellsRisks_38_1_49_3] at h
    refine lv_iload hx hb dX4_tellsRisks_3 (lv_at hl 3 rfl) ?_
    refine lv_aload_n hx hb dX4_tellsRisks_5 rfl (lv_at hl 1 rfl) ?_
    refine va_get (v := .int (M.1 49 2)) (C := RX2) (T := TX2) (N := 3) hx hb hts in2 hown hK.1 hP 49 nb_a49 rfl 2 (by decide) w_1 (fun _ h9 => h9) rfl dX4_tellsRisks_6 ?_
    refine lv_icmp_ge (tgt := 46) hx hb dX4_tellsRisks_9 (by decide) (fun c_1 => ?_) (fun c_1 => ?_)
    · have h := nb_t c_1 h
      refine lv_iconst (v := (1 : Int32)) hx hb dX4_tellsRisks_46 (by decide) ?_
      obtain ⟨rfl, rfl⟩ := nb_e2 h
      exact nb_zret (by decide) hx hb hr hlk hP hS dX4_tellsRisks_47
    · have h := nb_f c_1 h
      refine lv_iload hx hb dX4_tellsRisks_12 (lv_at hl 3 rfl) ?_
      refine lv_aload_n hx hb dX4_tellsRisks_14 rfl (lv_at hl 0 rfl) ?_
      refine va_get (v := .int (M.1 1 6)) (C := RX0) (T := TX0) (N := 16) hx hb hts in0 hown hK.1 hP 1 nb_a1 rfl 6 (by decide) w_3 (fun _ h9 => h9) rfl dX4_tellsRisks_15 ?_
      refine lv_icmp_ge (tgt := 38) hx hb dX4_tellsRisks_18 (by decide) (fun c_2 => ?_) (fun c_2 => ?_)
      · have h := nb_t c_2 h
        refine lv_iconst (v := (0 : Int32)) hx hb dX4_tellsRisks_38 (by decide) ?_
        obtain ⟨rfl, rfl⟩ := nb_e2 h
        exact nb_zret (by decide) hx hb hr hlk hP hS dX4_tellsRisks_39
      · have h := nb_f c_2 h
        refine lv_aload_n hx hb dX4_tellsRisks_21 rfl (lv_at hl 1 rfl) ?_
        refine va_get (v := .ref (ad 50)) (C := RX2) (T := TX2) (N := 3) hx hb hts in2 hown hK.1 hP 49 nb_a49 rfl 0 (by decide) w_5 (fun _ h9 => h9) rfl dX4_tellsRisks_22 ?_
        refine lv_iload hx hb dX4_tellsRisks_25 (lv_at hl 3 rfl) ?_
        obtain ⟨c_3, h⟩ := nb_c h
        refine va_iald hx hb hK.1 hP 50 0 nb_a50 rfl c_3 dX4_tellsRisks_27 ?_
        refine lv_aload_n hx hb dX4_tellsRisks_28 rfl (lv_at hl 0 rfl) ?_
        refine lv_iload hx hb dX4_tellsRisks_29 (lv_at hl 3 rfl) ?_
        refine lv_iload_n hx hb dX4_tellsRisks_31 rfl (lv_at hl 2 rfl) ?_
        obtain ⟨r_4, M_4, e_4, h⟩ := nb_pE h
        refine nb_callV (n := 2) (As := [.int x4, .int x3]) (rest := [.int (M.1 50 x4.toNatClampNeg)]) hx hb hml hown hts hK hZ hP hS (k_X0_riskBy had M N x4 x3 e_4) gX4_tellsRisks_X0_riskBy rfl (by decide +kernel) (nb_rm (Nat.le_of_ble_eq_true rfl) (Nat.le_of_ble_eq_true rfl)) nb_a1 rfl rfl rfl hl.1 rfl (Nat.le_of_ble_eq_true rfl) dX4_tellsRisks_32 (fun H locs hP hS => ?_)
        refine W.eq (g2 := F0 m 35 ls [.int r_4, .int (M.1 50 x4.toNatClampNeg)]) rfl ?_
        refine lv_icmp_eq (tgt := 40) hx hb dX4_tellsRisks_35 (by decide) (fun c_5 => ?_) (fun c_5 => ?_)
        · have h := nb_t c_5 h
          refine lv_iinc (v := x4 + 1) (lv' := [(4, .int (x4 + 1)), (1, .ref (ad 1)), (2, .ref (ad 49)), (3, .int x3)]) hx hb dX4_tellsRisks_40 hl (k := 3) rfl (congrArg (HAdd.hAdd x4) (by decide)) (by decide) rfl (fun ls hl => ?_)
          refine lv_goto (tgt := 3) hx hb dX4_tellsRisks_43 (by decide) ?_
          exact ih _ _ _ h _ _ hP hS _ (lv_sub hl [1, 2, 3, 0] rfl)
        · have h := nb_f c_5 h
          refine lv_iconst (v := (0 : Int32)) hx hb dX4_tellsRisks_38 (by decide) ?_
          obtain ⟨rfl, rfl⟩ := nb_e2 h
          exact nb_zret (by decide) hx hb hr hlk hP hS dX4_tellsRisks_39
set_option maxHeartbeats 4000000 in
set_option maxRecDepth 100000 in
theorem k_X4_tellsRisks_38_1_49 {r : Int32} {M' : nb_M} (had : nb_AD ad b0) (M N : nb_M) (p0 : Int32) (h : f_X4_tellsRisks_38_1_49 M p0 = some (r, M')) : nb_C l D ad ca b0 yX4_tellsRisks wsX4_tellsRisks 4 [.ref (ad 38), .ref (ad 1), .ref (ad 49), .int p0] M N (some (.int r)) M' N := by
  refine nb_of (cc := cX4_tellsRisks) (maxL := 5) (ret := (some .boolean)) (own := RX4) (by decide +kernel) rfl rfl (Nat.le_of_ble_eq_true rfl) ?_
  intro p e s m args below meth c ls X hP hS hl
  have hl : lv_has ls 5 [(0, .ref (ad 38)), (1, .ref (ad 1)), (2, .ref (ad 49)), (3, .int p0)] := hl
  obtain ⟨hx, hb, hml, hown, hts, hr, hlk, hK, hZ⟩ := id X
  unfold f_X4_tellsRisks_38_1_49 at h
  refine lv_iconst (v := (0 : Int32)) hx hb dX4_tellsRisks_0 (by decide) ?_
  refine lv_istore (lv' := [(4, .int (0 : Int32)), (0, .ref (ad 38)), (1, .ref (ad 1)), (2, .ref (ad 49)), (3, .int p0)]) hx hb dX4_tellsRisks_1 hl (by decide) rfl (fun ls hl => ?_)
  exact w_X4_tellsRisks_38_1_49_3 had X nb_F _ _ _ h _ _ hP hS _ (lv_sub hl [2, 3, 4, 0] rfl)
set_option maxHeartbeats 4000000 in
set_option maxRecDepth 100000 in
theorem w_X4_fitsBy_38_1_49_5 {N : nb_M} {r : Int32} {M' : nb_M} (had : nb_AD ad b0) (X : nb_X p s m args meth c cX4_fitsBy 5 RX4 (some .int) wsX4_fitsBy D ca b0) : ∀ (n : Nat) (M : nb_M) (x3 : Int32) (x4 : Int32), f_X4_fitsBy_38_1_49_5 n M x3 x4 = some (r, M') → ∀ (H : Heap) (locs : List Loc), va_P D vwCl (nb_w ad ca M N) H → va_S (fun q => b0 ≤ q) s.heap H locs → ∀ ls : Array Slot, lv_has ls 5 [(0, .ref (ad 38)), (1, .ref (ad 1)), (2, .ref (ad 49)), (3, .int x3), (4, .int x4)] → W p l e (nb_R 5) s m args below meth c H locs 0 0 (nb_Q below args s D ad ca b0 (some (.int r)) M' N) (F0 m 5 ls []) := by
  obtain ⟨hx, hb, hml, hown, hts, hr, hlk, hK, hZ⟩ := id X
  intro n
  induction n with
  | zero =>
    intro M x3 x4 h
    rw [f_X4_fitsBy_38_1_49_5] at h
    cases h
  | succ n ih =>
    intro M x3 x4 h H locs hP hS ls hl
    rw [f_X4_fitsBy_38_1_49_5] at h
    refine lv_iload hx hb dX4_fitsBy_5 (lv_at hl 4 rfl) ?_
    refine lv_bipush (v := (9 : Int32)) hx hb dX4_fitsBy_7 (by decide) ?_
    refine lv_icmp_gt (tgt := 36) hx hb dX4_fitsBy_9 (by decide) (fun c_1 => ?_) (fun c_1 => ?_)
    · have h := nb_t c_1 h
      refine lv_iload_n hx hb dX4_fitsBy_36 rfl (lv_at hl 3 rfl) ?_
      obtain ⟨rfl, rfl⟩ := nb_e2 h
      exact nb_iret hx hb hr hlk hP hS dX4_fitsBy_37
    · have h := nb_f c_1 h
      refine lv_aload_n hx hb dX4_fitsBy_12 rfl (lv_at hl 0 rfl) ?_
      refine lv_aload_n hx hb dX4_fitsBy_13 rfl (lv_at hl 1 rfl) ?_
      refine lv_aload_n hx hb dX4_fitsBy_14 rfl (lv_at hl 2 rfl) ?_
      refine lv_iload hx hb dX4_fitsBy_15 (lv_at hl 4 rfl) ?_
      obtain ⟨r_2, M_2, e_2, h⟩ := nb_pE h
      refine nb_callV (n := 3) (As := [.ref (ad 1), .ref (ad 49), .int x4]) (rest := []) hx hb hml hown hts hK hZ hP hS (k_X4_tellsRisks_38_1_49 had M N x4 e_2) gX4_fitsBy_X4_tellsRisks rfl (by decide +kernel) (nb_rm (Nat.le_of_ble_eq_true rfl) (Nat.le_of_ble_eq_true rfl)) nb_a38 rfl rfl rfl hl.1 rfl (Nat.le_of_ble_eq_true rfl) dX4_fitsBy_17 (fun H locs hP hS => ?_)
      refine W.eq (g2 := F0 m 20 ls [.int r_2]) rfl ?_
      refine lv_if_eq (tgt := 30) hx hb dX4_fitsBy_20 (by decide) (fun c_3 => ?_) (fun c_3 => ?_)
      · have h := nb_t c_3 h
        refine lv_iinc (v := x4 + 1) (lv' := [(4, .int (x4 + 1)), (0, .ref (ad 38)), (1, .ref (ad 1)), (2, .ref (ad 49)), (3, .int x3)]) hx hb dX4_fitsBy_30 hl (k := 4) rfl (congrArg (HAdd.hAdd x4) (by decide)) (by decide) rfl (fun ls hl => ?_)
        refine lv_goto (tgt := 5) hx hb dX4_fitsBy_33 (by decide) ?_
        exact ih _ _ _ h _ _ hP hS _ (lv_sub hl [1, 2, 3, 4, 0] rfl)
      · have h := nb_f c_3 h
        refine lv_iload_n hx hb dX4_fitsBy_23 rfl (lv_at hl 3 rfl) ?_
        refine lv_iconst (v := (1 : Int32)) hx hb dX4_fitsBy_24 (by decide) ?_
        refine lv_iload hx hb dX4_fitsBy_25 (lv_at hl 4 rfl) ?_
        refine lv_ishl hx hb dX4_fitsBy_27 ?_
        refine lv_ior hx hb dX4_fitsBy_28 ?_
        refine lv_topi (fun v_4 e_4 => ?_)
        have h := nb_nA e_4 h
        refine lv_istore_n (lv' := [(3, .int v_4), (0, .ref (ad 38)), (1, .ref (ad 1)), (2, .ref (ad 49)), (4, .int x4)]) hx hb dX4_fitsBy_29 rfl hl (by decide) rfl (fun ls hl => ?_)
        refine lv_iinc (v := x4 + 1) (lv' := [(4, .int (x4 + 1)), (3, .int v_4), (0, .ref (ad 38)), (1, .ref (ad 1)), (2, .ref (ad 49))]) hx hb dX4_fitsBy_30 hl (k := 4) rfl (congrArg (HAdd.hAdd x4) (by decide)) (by decide) rfl (fun ls hl => ?_)
        refine lv_goto (tgt := 5) hx hb dX4_fitsBy_33 (by decide) ?_
        exact ih _ _ _ h _ _ hP hS _ (lv_sub hl [2, 3, 4, 1, 0] rfl)
set_option maxHeartbeats 4000000 in
set_option maxRecDepth 100000 in
theorem k_X4_fitsBy_38_1_49 {r : Int32} {M' : nb_M} (had : nb_AD ad b0) (M N : nb_M) (h : f_X4_fitsBy_38_1_49 M = some (r, M')) : nb_C l D ad ca b0 yX4_fitsBy wsX4_fitsBy 5 [.ref (ad 38), .ref (ad 1), .ref (ad 49)] M N (some (.int r)) M' N := by
  refine nb_of (cc := cX4_fitsBy) (maxL := 5) (ret := (some .int)) (own := RX4) (by decide +kernel) rfl rfl (Nat.le_of_ble_eq_true rfl) ?_
  intro p e s m args below meth c ls X hP hS hl
  have hl : lv_has ls 5 [(0, .ref (ad 38)), (1, .ref (ad 1)), (2, .ref (ad 49))] := hl
  obtain ⟨hx, hb, hml, hown, hts, hr, hlk, hK, hZ⟩ := id X
  unfold f_X4_fitsBy_38_1_49 at h
  refine lv_iconst (v := (0 : Int32)) hx hb dX4_fitsBy_0 (by decide) ?_
  refine lv_istore_n (lv' := [(3, .int (0 : Int32)), (0, .ref (ad 38)), (1, .ref (ad 1)), (2, .ref (ad 49))]) hx hb dX4_fitsBy_1 rfl hl (by decide) rfl (fun ls hl => ?_)
  refine lv_iconst (v := (0 : Int32)) hx hb dX4_fitsBy_2 (by decide) ?_
  refine lv_istore (lv' := [(4, .int (0 : Int32)), (3, .int (0 : Int32)), (0, .ref (ad 38)), (1, .ref (ad 1)), (2, .ref (ad 49))]) hx hb dX4_fitsBy_3 hl (by decide) rfl (fun ls hl => ?_)
  exact w_X4_fitsBy_38_1_49_5 had X nb_F _ _ _ h _ _ hP hS _ (lv_sub hl [2, 3, 4, 1, 0] rfl)
set_option maxHeartbeats 4000000 in
set_option maxRecDepth 100000 in
theorem k_X6_fits {r : Int32} {M' : nb_M} (had : nb_AD ad b0) (M N : nb_M) (p0 : Int32) (p1 : Int32) (p2 : Int32) (h : f_X6_fits M p0 p1 p2 = some (r, M')) : nb_C l D ad ca b0 yX6_fits wsX6_fits 6 [.ref (ad 0), .int p0, .int p1, .int p2] M N (some (.int r)) M' N := by
  refine nb_of (cc := cX6_fits) (maxL := 5) (ret := (some .int)) (own := RX6) (by decide +kernel) rfl rfl (Nat.le_of_ble_eq_true rfl) ?_
  intro p e s m args below meth c ls X hP hS hl
  have hl : lv_has ls 5 [(0, .ref (ad 0)), (1, .int p0), (2, .int p1), (3, .int p2)] := hl
  obtain ⟨hx, hb, hml, hown, hts, hr, hlk, hK, hZ⟩ := id X
  have w_1 := hts (.fieldLink RX6 12 "NineBreakages" "now" "LNineBreakages$House;") (by decide +kernel)
  have in6 : ∀ w ∈ u_ws RX6 TX6 8, w ∈ wsX6_fits := fun w q => List.mem_cons_of_mem _ (List.mem_append_left _ (List.mem_append_left _ (List.mem_append_left _ (List.mem_append_right _ q))))
  have w_3 := hts (.fieldLink RX6 46 "NineBreakages" "sheets" "[LNineBreakages$Sheet;") (by decide +kernel)
  have w_4 := hts (.fieldLink RX6 29 "NineBreakages" "thought" "LNineBreakages$Thought;") (by decide +kernel)
  unfold f_X6_fits at h
  refine lv_iload_n hx hb dX6_fits_0 rfl (lv_at hl 1 rfl) ?_
  refine nb_callS (n := 1) (As := [.int p0]) (rest := []) hx hb hml hown hts hK hZ hP hS (k_X6_isSheet had M N p0) gX6_fits_X6_isSheet rfl (by decide +kernel) (nb_rm (Nat.le_of_ble_eq_true rfl) (Nat.le_of_ble_eq_true rfl)) rfl hl.1 rfl (Nat.le_of_ble_eq_true rfl) dX6_fits_1 (fun H locs hP hS => ?_)
  refine W.eq (g2 := F0 m 4 ls [.int (f_X6_isSheet p0)]) rfl ?_
  refine lv_if_eq (tgt := 26) hx hb dX6_fits_4 (by decide) (fun c_2 => ?_) (fun c_2 => ?_)
  · have h := nb_t c_2 h
    refine lv_aload_n hx hb dX6_fits_26 rfl (lv_at hl 0 rfl) ?_
    refine lv_iconst (v := (1 : Int32)) hx hb dX6_fits_27 (by decide) ?_
    obtain ⟨r_3, M_3, e_3, h⟩ := nb_pE h
    refine nb_callV (n := 1) (As := [.int (1 : Int32)]) (rest := []) hx hb hml hown hts hK hZ hP hS (k_X6_fail had M N (1 : Int32) e_3) gX6_fits_X6_fail rfl (by decide +kernel) (nb_rm (Nat.le_of_ble_eq_true rfl) (Nat.le_of_ble_eq_true rfl)) nb_a0 rfl rfl rfl hl.1 rfl (Nat.le_of_ble_eq_true rfl) dX6_fits_28 (fun H locs hP hS => ?_)
    refine W.eq (g2 := F0 m 31 ls [.int r_3]) rfl ?_
    obtain ⟨rfl, rfl⟩ := nb_e2 h
    exact nb_iret hx hb hr hlk hP hS dX6_fits_31
  · have h := nb_f c_2 h
    refine lv_aload_n hx hb dX6_fits_7 rfl (lv_at hl 0 rfl) ?_
    refine va_get (v := .ref (ad 1)) (C := RX6) (T := TX6) (N := 8) hx hb hts in6 hown hK.1 hP 0 nb_a0 rfl 0 (by decide) w_1 (fun _ h9 => h9) rfl dX6_fits_8 ?_
    refine lv_iload_n hx hb dX6_fits_11 rfl (lv_at hl 2 rfl) ?_
    refine nb_callV (n := 1) (As := [.int p1]) (rest := []) hx hb hml hown hts hK hZ hP hS (k_X0_isPerson had M N p1) gX6_fits_X0_isPerson rfl (by decide +kernel) (nb_rm (Nat.le_of_ble_eq_true rfl) (Nat.le_of_ble_eq_true rfl)) nb_a1 rfl rfl rfl hl.1 rfl (Nat.le_of_ble_eq_true rfl) dX6_fits_12 (fun H locs hP hS => ?_)
    refine W.eq (g2 := F0 m 15 ls [.int (f_X0_isPerson M p1)]) rfl ?_
    refine lv_if_eq (tgt := 26) hx hb dX6_fits_15 (by decide) (fun c_5 => ?_) (fun c_5 => ?_)
    · have h := nb_t c_5 h
      refine lv_aload_n hx hb dX6_fits_26 rfl (lv_at hl 0 rfl) ?_
      refine lv_iconst (v := (1 : Int32)) hx hb dX6_fits_27 (by decide) ?_
      obtain ⟨r_6, M_6, e_6, h⟩ := nb_pE h
      refine nb_callV (n := 1) (As := [.int (1 : Int32)]) (rest := []) hx hb hml hown hts hK hZ hP hS (k_X6_fail had M N (1 : Int32) e_6) gX6_fits_X6_fail rfl (by decide +kernel) (nb_rm (Nat.le_of_ble_eq_true rfl) (Nat.le_of_ble_eq_true rfl)) nb_a0 rfl rfl rfl hl.1 rfl (Nat.le_of_ble_eq_true rfl) dX6_fits_28 (fun H locs hP hS => ?_)
      refine W.eq (g2 := F0 m 31 ls [.int r_6]) rfl ?_
      obtain ⟨rfl, rfl⟩ := nb_e2 h
      exact nb_iret hx hb hr hlk hP hS dX6_fits_31
    · have h := nb_f c_5 h
      refine lv_iload_n hx hb dX6_fits_18 rfl (lv_at hl 3 rfl) ?_
      refine lv_iconst (v := (1 : Int32)) hx hb dX6_fits_19 (by decide) ?_
      refine nb_callS (n := 2) (As := [.int p2, .int (1 : Int32)]) (rest := []) hx hb hml hown hts hK hZ hP hS (k_X6_within had M N p2 (1 : Int32)) gX6_fits_X6_within rfl (by decide +kernel) (nb_rm (Nat.le_of_ble_eq_true rfl) (Nat.le_of_ble_eq_true rfl)) rfl hl.1 rfl (Nat.le_of_ble_eq_true rfl) dX6_fits_20 (fun H locs hP hS => ?_)
      refine W.eq (g2 := F0 m 23 ls [.int (f_X6_within p2 (1 : Int32))]) rfl ?_
      refine lv_if_ne (tgt := 32) hx hb dX6_fits_23 (by decide) (fun c_8 => ?_) (fun c_8 => ?_)
      · have h := nb_f c_8 h
        refine lv_aload_n hx hb dX6_fits_32 rfl (lv_at hl 0 rfl) ?_
        refine va_get (v := .ref (ad 42)) (C := RX6) (T := TX6) (N := 8) hx hb hts in6 hown hK.1 hP 0 nb_a0 rfl 5 (by decide) w_3 (fun _ h9 => h9) rfl dX6_fits_33 ?_
        refine lv_iload_n hx hb dX6_fits_36 rfl (lv_at hl 1 rfl) ?_
        by_cases c_9 : p0 = 0
        · have h := nb_t c_9 h
          refine nb_ald (t0 := 3) (E := RX2) (v := (0 : Int32)) hx hb hK hP nb_a42 rfl c_9 (nb_lit rfl) rfl dX6_fits_37 ?_
          refine nb_callV (n := 0) (As := []) (rest := []) hx hb hml hown hts hK hZ hP hS (k_X2_isMissing_43 had M N) gX6_fits_X2_isMissing rfl (by decide +kernel) (nb_rm (Nat.le_of_ble_eq_true rfl) (Nat.le_of_ble_eq_true rfl)) nb_a43 rfl rfl rfl hl.1 rfl (Nat.le_of_ble_eq_true rfl) dX6_fits_38 (fun H locs hP hS => ?_)
          refine W.eq (g2 := F0 m 41 ls [.int (f_X2_isMissing_43 M)]) rfl ?_
          refine lv_if_eq (tgt := 50) hx hb dX6_fits_41 (by decide) (fun c_11 => ?_) (fun c_11 => ?_)
          · have h := nb_t c_11 h
            refine lv_aload_n hx hb dX6_fits_50 rfl (lv_at hl 0 rfl) ?_
            refine va_get (v := .ref (ad 38)) (C := RX6) (T := TX6) (N := 8) hx hb hts in6 hown hK.1 hP 0 nb_a0 rfl 3 (by decide) w_4 (fun _ h9 => h9) rfl dX6_fits_51 ?_
            refine lv_aload_n hx hb dX6_fits_54 rfl (lv_at hl 0 rfl) ?_
            refine va_get (v := .ref (ad 1)) (C := RX6) (T := TX6) (N := 8) hx hb hts in6 hown hK.1 hP 0 nb_a0 rfl 0 (by decide) w_1 (fun _ h9 => h9) rfl dX6_fits_55 ?_
            refine lv_aload_n hx hb dX6_fits_58 rfl (lv_at hl 0 rfl) ?_
            refine va_get (v := .ref (ad 42)) (C := RX6) (T := TX6) (N := 8) hx hb hts in6 hown hK.1 hP 0 nb_a0 rfl 5 (by decide) w_3 (fun _ h9 => h9) rfl dX6_fits_59 ?_
            refine lv_iload_n hx hb dX6_fits_62 rfl (lv_at hl 1 rfl) ?_
            refine nb_ald (t0 := 3) (E := RX2) (v := (0 : Int32)) hx hb hK hP nb_a42 rfl c_9 (nb_lit rfl) rfl dX6_fits_63 ?_
            obtain ⟨r_12, M_12, e_12, h⟩ := nb_pE h
            refine nb_callV (n := 2) (As := [.ref (ad 1), .ref (ad 43)]) (rest := []) hx hb hml hown hts hK hZ hP hS (k_X4_fitsBy_38_1_43 had M N e_12) gX6_fits_X4_fitsBy rfl (by decide +kernel) (nb_rm (Nat.le_of_ble_eq_true rfl) (Nat.le_of_ble_eq_true rfl)) nb_a38 rfl rfl rfl hl.1 rfl (Nat.le_of_ble_eq_true rfl) dX6_fits_64 (fun H locs hP hS => ?_)
            refine W.eq (g2 := F0 m 67 ls [.int r_12]) rfl ?_
            refine lv_istore (lv' := [(4, .int r_12), (0, .ref (ad 0)), (1, .int p0), (2, .int p1), (3, .int p2)]) hx hb dX6_fits_67 hl (by decide) rfl (fun ls hl => ?_)
            refine lv_iload_n hx hb dX6_fits_69 rfl (lv_at hl 4 rfl) ?_
            refine lv_if_ne (tgt := 76) hx hb dX6_fits_70 (by decide) (fun c_13 => ?_) (fun c_13 => ?_)
            · have h := nb_f c_13 h
              refine lv_iload hx hb dX6_fits_76 (lv_at hl 0 rfl) ?_
              refine lv_if_ne (tgt := 89) hx hb dX6_fits_78 (by decide) (fun c_14 => ?_) (fun c_14 => ?_)
              · have h := nb_f c_14 h
                refine lv_iload hx hb dX6_fits_89 (lv_at hl 0 rfl) ?_
                obtain ⟨r_15, e_15, h⟩ := nb_oE h
                refine nb_callS (n := 1) (As := [.int r_12]) (rest := []) hx hb hml hown hts hK hZ hP hS (k_X6_lowestIn had M_12 N r_12 e_15) gX6_fits_X6_lowestIn rfl (by decide +kernel) (nb_rm (Nat.le_of_ble_eq_true rfl) (Nat.le_of_ble_eq_true rfl)) rfl hl.1 rfl (Nat.le_of_ble_eq_true rfl) dX6_fits_91 (fun H locs hP hS => ?_)
                refine W.eq (g2 := F0 m 94 ls [.int r_15]) rfl ?_
                obtain ⟨rfl, rfl⟩ := nb_e2 h
                exact nb_iret hx hb hr hlk hP hS dX6_fits_94
              · have h := nb_t c_14 h
                refine lv_aload_n hx hb dX6_fits_81 rfl (lv_at hl 1 rfl) ?_
                refine lv_iconst (v := (2 : Int32)) hx hb dX6_fits_82 (by decide) ?_
                obtain ⟨r_16, M_16, e_16, h⟩ := nb_pE h
                refine nb_callV (n := 1) (As := [.int (2 : Int32)]) (rest := []) hx hb hml hown hts hK hZ hP hS (k_X6_fail had M_12 N (2 : Int32) e_16) gX6_fits_X6_fail rfl (by decide +kernel) (nb_rm (Nat.le_of_ble_eq_true rfl) (Nat.le_of_ble_eq_true rfl)) nb_a0 rfl rfl rfl hl.1 rfl (Nat.le_of_ble_eq_true rfl) dX6_fits_83 (fun H locs hP hS => ?_)
                refine W.eq (g2 := F0 m 86 ls [.int r_16]) rfl ?_
                refine lv_goto (tgt := 94) hx hb dX6_fits_86 (by decide) ?_
                obtain ⟨rfl, rfl⟩ := nb_e2 h
                exact nb_iret hx hb hr hlk hP hS dX6_fits_94
            · have h := nb_t c_13 h
              refine lv_iload hx hb dX6_fits_73 (lv_at hl 0 rfl) ?_
              obtain ⟨rfl, rfl⟩ := nb_e2 h
              exact nb_iret hx hb hr hlk hP hS dX6_fits_75
          · have h := nb_f c_11 h
            refine lv_aload_n hx hb dX6_fits_44 rfl (lv_at hl 0 rfl) ?_
            refine lv_iconst (v := (2 : Int32)) hx hb dX6_fits_45 (by decide) ?_
            obtain ⟨r_17, M_17, e_17, h⟩ := nb_pE h
            refine nb_callV (n := 1) (As := [.int (2 : Int32)]) (rest := []) hx hb hml hown hts hK hZ hP hS (k_X6_fail had M N (2 : Int32) e_17) gX6_fits_X6_fail rfl (by decide +kernel) (nb_rm (Nat.le_of_ble_eq_true rfl) (Nat.le_of_ble_eq_true rfl)) nb_a0 rfl rfl rfl hl.1 rfl (Nat.le_of_ble_eq_true rfl) dX6_fits_46 (fun H locs hP hS => ?_)
            refine W.eq (g2 := F0 m 49 ls [.int r_17]) rfl ?_
            obtain ⟨rfl, rfl⟩ := nb_e2 h
            exact nb_iret hx hb hr hlk hP hS dX6_fits_49
        · have h := nb_f c_9 h
          by_cases c_18 : p0 = 1
          · have h := nb_t c_18 h
            refine nb_ald (t0 := 3) (E := RX2) (v := (1 : Int32)) hx hb hK hP nb_a42 rfl c_18 (nb_lit rfl) rfl dX6_fits_37 ?_
            refine nb_callV (n := 0) (As := []) (rest := []) hx hb hml hown hts hK hZ hP hS (k_X2_isMissing_45 had M N) gX6_fits_X2_isMissing rfl (by decide +kernel) (nb_rm (Nat.le_of_ble_eq_true rfl) (Nat.le_of_ble_eq_true rfl)) nb_a45 rfl rfl rfl hl.1 rfl (Nat.le_of_ble_eq_true rfl) dX6_fits_38 (fun H locs hP hS => ?_)
            refine W.eq (g2 := F0 m 41 ls [.int (f_X2_isMissing_45 M)]) rfl ?_
            refine lv_if_eq (tgt := 50) hx hb dX6_fits_41 (by decide) (fun c_20 => ?_) (fun c_20 => ?_)
            · have h := nb_t c_20 h
              refine lv_aload_n hx hb dX6_fits_50 rfl (lv_at hl 0 rfl) ?_
              refine va_get (v := .ref (ad 38)) (C := RX6) (T := TX6) (N := 8) hx hb hts in6 hown hK.1 hP 0 nb_a0 rfl 3 (by decide) w_4 (fun _ h9 => h9) rfl dX6_fits_51 ?_
              refine lv_aload_n hx hb dX6_fits_54 rfl (lv_at hl 0 rfl) ?_
              refine va_get (v := .ref (ad 1)) (C := RX6) (T := TX6) (N := 8) hx hb hts in6 hown hK.1 hP 0 nb_a0 rfl 0 (by decide) w_1 (fun _ h9 => h9) rfl dX6_fits_55 ?_
              refine lv_aload_n hx hb dX6_fits_58 rfl (lv_at hl 0 rfl) ?_
              refine va_get (v := .ref (ad 42)) (C := RX6) (T := TX6) (N := 8) hx hb hts in6 hown hK.1 hP 0 nb_a0 rfl 5 (by decide) w_3 (fun _ h9 => h9) rfl dX6_fits_59 ?_
              refine lv_iload_n hx hb dX6_fits_62 rfl (lv_at hl 1 rfl) ?_
              refine nb_ald (t0 := 3) (E := RX2) (v := (1 : Int32)) hx hb hK hP nb_a42 rfl c_18 (nb_lit rfl) rfl dX6_fits_63 ?_
              obtain ⟨r_21, M_21, e_21, h⟩ := nb_pE h
              refine nb_callV (n := 2) (As := [.ref (ad 1), .ref (ad 45)]) (rest := []) hx hb hml hown hts hK hZ hP hS (k_X4_fitsBy_38_1_45 had M N e_21) gX6_fits_X4_fitsBy rfl (by decide +kernel) (nb_rm (Nat.le_of_ble_eq_true rfl) (Nat.le_of_ble_eq_true rfl)) nb_a38 rfl rfl rfl hl.1 rfl (Nat.le_of_ble_eq_true rfl) dX6_fits_64 (fun H locs hP hS => ?_)
              refine W.eq (g2 := F0 m 67 ls [.int r_21]) rfl ?_
              refine lv_istore (lv' := [(4, .int r_21), (0, .ref (ad 0)), (1, .int p0), (2, .int p1), (3, .int p2)]) hx hb dX6_fits_67 hl (by decide) rfl (fun ls hl => ?_)
              refine lv_iload_n hx hb dX6_fits_69 rfl (lv_at hl 4 rfl) ?_
              refine lv_if_ne (tgt := 76) hx hb dX6_fits_70 (by decide) (fun c_22 => ?_) (fun c_22 => ?_)
              · have h := nb_f c_22 h
                refine lv_iload hx hb dX6_fits_76 (lv_at hl 0 rfl) ?_
                refine lv_if_ne (tgt := 89) hx hb dX6_fits_78 (by decide) (fun c_23 => ?_) (fun c_23 => ?_)
                · have h := nb_f c_23 h
                  refine lv_iload hx hb dX6_fits_89 (lv_at hl 0 rfl) ?_
                  obtain ⟨r_24, e_24, h⟩ := nb_oE h
                  refine nb_callS (n := 1) (As := [.int r_21]) (rest := []) hx hb hml hown hts hK hZ hP hS (k_X6_lowestIn had M_21 N r_21 e_24) gX6_fits_X6_lowestIn rfl (by decide +kernel) (nb_rm (Nat.le_of_ble_eq_true rfl) (Nat.le_of_ble_eq_true rfl)) rfl hl.1 rfl (Nat.le_of_ble_eq_true rfl) dX6_fits_91 (fun H locs hP hS => ?_)
                  refine W.eq (g2 := F0 m 94 ls [.int r_24]) rfl ?_
                  obtain ⟨rfl, rfl⟩ := nb_e2 h
                  exact nb_iret hx hb hr hlk hP hS dX6_fits_94
                · have h := nb_t c_23 h
                  refine lv_aload_n hx hb dX6_fits_81 rfl (lv_at hl 1 rfl) ?_
                  refine lv_iconst (v := (2 : Int32)) hx hb dX6_fits_82 (by decide) ?_
                  obtain ⟨r_25, M_25, e_25, h⟩ := nb_pE h
                  refine nb_callV (n := 1) (As := [.int (2 : Int32)]) (rest := []) hx hb hml hown hts hK hZ hP hS (k_X6_fail had M_21 N (2 : Int32) e_25) gX6_fits_X6_fail rfl (by decide +kernel) (nb_rm (Nat.le_of_ble_eq_true rfl) (Nat.le_of_ble_eq_true rfl)) nb_a0 rfl rfl rfl hl.1 rfl (Nat.le_of_ble_eq_true rfl) dX6_fits_83 (fun H locs hP hS => ?_)
                  refine W.eq (g2 := F0 m 86 ls [.int r_25]) rfl ?_
                  refine lv_goto (tgt := 94) hx hb dX6_fits_86 (by decide) ?_
                  obtain ⟨rfl, rfl⟩ := nb_e2 h
                  exact nb_iret hx hb hr hlk hP hS dX6_fits_94
              · have h := nb_t c_22 h
                refine lv_iload hx hb dX6_fits_73 (lv_at hl 0 rfl) ?_
                obtain ⟨rfl, rfl⟩ := nb_e2 h
                exact nb_iret hx hb hr hlk hP hS dX6_fits_75
            · have h := nb_f c_20 h
              refine lv_aload_n hx hb dX6_fits_44 rfl (lv_at hl 0 rfl) ?_
              refine lv_iconst (v := (2 : Int32)) hx hb dX6_fits_45 (by decide) ?_
              obtain ⟨r_26, M_26, e_26, h⟩ := nb_pE h
              refine nb_callV (n := 1) (As := [.int (2 : Int32)]) (rest := []) hx hb hml hown hts hK hZ hP hS (k_X6_fail had M N (2 : Int32) e_26) gX6_fits_X6_fail rfl (by decide +kernel) (nb_rm (Nat.le_of_ble_eq_true rfl) (Nat.le_of_ble_eq_true rfl)) nb_a0 rfl rfl rfl hl.1 rfl (Nat.le_of_ble_eq_true rfl) dX6_fits_46 (fun H locs hP hS => ?_)
              refine W.eq (g2 := F0 m 49 ls [.int r_26]) rfl ?_
              obtain ⟨rfl, rfl⟩ := nb_e2 h
              exact nb_iret hx hb hr hlk hP hS dX6_fits_49
          · have h := nb_f c_18 h
            by_cases c_27 : p0 = 2
            · have h := nb_t c_27 h
              refine nb_ald (t0 := 3) (E := RX2) (v := (2 : Int32)) hx hb hK hP nb_a42 rfl c_27 (nb_lit rfl) rfl dX6_fits_37 ?_
              refine nb_callV (n := 0) (As := []) (rest := []) hx hb hml hown hts hK hZ hP hS (k_X2_isMissing_47 had M N) gX6_fits_X2_isMissing rfl (by decide +kernel) (nb_rm (Nat.le_of_ble_eq_true rfl) (Nat.le_of_ble_eq_true rfl)) nb_a47 rfl rfl rfl hl.1 rfl (Nat.le_of_ble_eq_true rfl) dX6_fits_38 (fun H locs hP hS => ?_)
              refine W.eq (g2 := F0 m 41 ls [.int (f_X2_isMissing_47 M)]) rfl ?_
              refine lv_if_eq (tgt := 50) hx hb dX6_fits_41 (by decide) (fun c_29 => ?_) (fun c_29 => ?_)
              · have h := nb_t c_29 h
                refine lv_aload_n hx hb dX6_fits_50 rfl (lv_at hl 0 rfl) ?_
                refine va_get (v := .ref (ad 38)) (C := RX6) (T := TX6) (N := 8) hx hb hts in6 hown hK.1 hP 0 nb_a0 rfl 3 (by decide) w_4 (fun _ h9 => h9) rfl dX6_fits_51 ?_
                refine lv_aload_n hx hb dX6_fits_54 rfl (lv_at hl 0 rfl) ?_
                refine va_get (v := .ref (ad 1)) (C := RX6) (T := TX6) (N := 8) hx hb hts in6 hown hK.1 hP 0 nb_a0 rfl 0 (by decide) w_1 (fun _ h9 => h9) rfl dX6_fits_55 ?_
                refine lv_aload_n hx hb dX6_fits_58 rfl (lv_at hl 0 rfl) ?_
                refine va_get (v := .ref (ad 42)) (C := RX6) (T := TX6) (N := 8) hx hb hts in6 hown hK.1 hP 0 nb_a0 rfl 5 (by decide) w_3 (fun _ h9 => h9) rfl dX6_fits_59 ?_
                refine lv_iload_n hx hb dX6_fits_62 rfl (lv_at hl 1 rfl) ?_
                refine nb_ald (t0 := 3) (E := RX2) (v := (2 : Int32)) hx hb hK hP nb_a42 rfl c_27 (nb_lit rfl) rfl dX6_fits_63 ?_
                obtain ⟨r_30, M_30, e_30, h⟩ := nb_pE h
                refine nb_callV (n := 2) (As := [.ref (ad 1), .ref (ad 47)]) (rest := []) hx hb hml hown hts hK hZ hP hS (k_X4_fitsBy_38_1_47 had M N e_30) gX6_fits_X4_fitsBy rfl (by decide +kernel) (nb_rm (Nat.le_of_ble_eq_true rfl) (Nat.le_of_ble_eq_true rfl)) nb_a38 rfl rfl rfl hl.1 rfl (Nat.le_of_ble_eq_true rfl) dX6_fits_64 (fun H locs hP hS => ?_)
                refine W.eq (g2 := F0 m 67 ls [.int r_30]) rfl ?_
                refine lv_istore (lv' := [(4, .int r_30), (0, .ref (ad 0)), (1, .int p0), (2, .int p1), (3, .int p2)]) hx hb dX6_fits_67 hl (by decide) rfl (fun ls hl => ?_)
                refine lv_iload_n hx hb dX6_fits_69 rfl (lv_at hl 4 rfl) ?_
                refine lv_if_ne (tgt := 76) hx hb dX6_fits_70 (by decide) (fun c_31 => ?_) (fun c_31 => ?_)
                · have h := nb_f c_31 h
                  refine lv_iload hx hb dX6_fits_76 (lv_at hl 0 rfl) ?_
                  refine lv_if_ne (tgt := 89) hx hb dX6_fits_78 (by decide) (fun c_32 => ?_) (fun c_32 => ?_)
                  · have h := nb_f c_32 h
                    refine lv_iload hx hb dX6_fits_89 (lv_at hl 0 rfl) ?_
                    obtain ⟨r_33, e_33, h⟩ := nb_oE h
                    refine nb_callS (n := 1) (As := [.int r_30]) (rest := []) hx hb hml hown hts hK hZ hP hS (k_X6_lowestIn had M_30 N r_30 e_33) gX6_fits_X6_lowestIn rfl (by decide +kernel) (nb_rm (Nat.le_of_ble_eq_true rfl) (Nat.le_of_ble_eq_true rfl)) rfl hl.1 rfl (Nat.le_of_ble_eq_true rfl) dX6_fits_91 (fun H locs hP hS => ?_)
                    refine W.eq (g2 := F0 m 94 ls [.int r_33]) rfl ?_
                    obtain ⟨rfl, rfl⟩ := nb_e2 h
                    exact nb_iret hx hb hr hlk hP hS dX6_fits_94
                  · have h := nb_t c_32 h
                    refine lv_aload_n hx hb dX6_fits_81 rfl (lv_at hl 1 rfl) ?_
                    refine lv_iconst (v := (2 : Int32)) hx hb dX6_fits_82 (by decide) ?_
                    obtain ⟨r_34, M_34, e_34, h⟩ := nb_pE h
                    refine nb_callV (n := 1) (As := [.int (2 : Int32)]) (rest := []) hx hb hml hown hts hK hZ hP hS (k_X6_fail had M_30 N (2 : Int32) e_34) gX6_fits_X6_fail rfl (by decide +kernel) (nb_rm (Nat.le_of_ble_eq_true rfl) (Nat.le_of_ble_eq_true rfl)) nb_a0 rfl rfl rfl hl.1 rfl (Nat.le_of_ble_eq_true rfl) dX6_fits_83 (fun H locs hP hS => ?_)
                    refine W.eq (g2 := F0 m 86 ls [.int r_34]) rfl ?_
                    refine lv_goto (tgt := 94) hx hb dX6_fits_86 (by decide) ?_
                    obtain ⟨rfl, rfl⟩ := nb_e2 h
                    exact nb_iret hx hb hr hlk hP hS dX6_fits_94
                · have h := nb_t c_31 h
                  refine lv_iload hx hb dX6_fits_73 (lv_at hl 0 rfl) ?_
                  obtain ⟨rfl, rfl⟩ := nb_e2 h
                  exact nb_iret hx hb hr hlk hP hS dX6_fits_75
              · have h := nb_f c_29 h
                refine lv_aload_n hx hb dX6_fits_44 rfl (lv_at hl 0 rfl) ?_
                refine lv_iconst (v := (2 : Int32)) hx hb dX6_fits_45 (by decide) ?_
                obtain ⟨r_35, M_35, e_35, h⟩ := nb_pE h
                refine nb_callV (n := 1) (As := [.int (2 : Int32)]) (rest := []) hx hb hml hown hts hK hZ hP hS (k_X6_fail had M N (2 : Int32) e_35) gX6_fits_X6_fail rfl (by decide +kernel) (nb_rm (Nat.le_of_ble_eq_true rfl) (Nat.le_of_ble_eq_true rfl)) nb_a0 rfl rfl rfl hl.1 rfl (Nat.le_of_ble_eq_true rfl) dX6_fits_46 (fun H locs hP hS => ?_)
                refine W.eq (g2 := F0 m 49 ls [.int r_35]) rfl ?_
                obtain ⟨rfl, rfl⟩ := nb_e2 h
                exact nb_iret hx hb hr hlk hP hS dX6_fits_49
            · have h := nb_f c_27 h
              by_cases c_36 : p0 = 3
              · have h := nb_t c_36 h
                refine nb_ald (t0 := 3) (E := RX2) (v := (3 : Int32)) hx hb hK hP nb_a42 rfl c_36 (nb_lit rfl) rfl dX6_fits_37 ?_
                refine nb_callV (n := 0) (As := []) (rest := []) hx hb hml hown hts hK hZ hP hS (k_X2_isMissing_49 had M N) gX6_fits_X2_isMissing rfl (by decide +kernel) (nb_rm (Nat.le_of_ble_eq_true rfl) (Nat.le_of_ble_eq_true rfl)) nb_a49 rfl rfl rfl hl.1 rfl (Nat.le_of_ble_eq_true rfl) dX6_fits_38 (fun H locs hP hS => ?_)
                refine W.eq (g2 := F0 m 41 ls [.int (f_X2_isMissing_49 M)]) rfl ?_
                refine lv_if_eq (tgt := 50) hx hb dX6_fits_41 (by decide) (fun c_38 => ?_) (fun c_38 => ?_)
                · have h := nb_t c_38 h
                  refine lv_aload_n hx hb dX6_fits_50 rfl (lv_at hl 0 rfl) ?_
                  refine va_get (v := .ref (ad 38)) (C := RX6) (T := TX6) (N := 8) hx hb hts in6 hown hK.1 hP 0 nb_a0 rfl 3 (by decide) w_4 (fun _ h9 => h9) rfl dX6_fits_51 ?_
                  refine lv_aload_n hx hb dX6_fits_54 rfl (lv_at hl 0 rfl) ?_
                  refine va_get (v := .ref (ad 1)) (C := RX6) (T := TX6) (N := 8) hx hb hts in6 hown hK.1 hP 0 nb_a0 rfl 0 (by decide) w_1 (fun _ h9 => h9) rfl dX6_fits_55 ?_
                  refine lv_aload_n hx hb dX6_fits_58 rfl (lv_at hl 0 rfl) ?_
                  refine va_get (v := .ref (ad 42)) (C := RX6) (T := TX6) (N := 8) hx hb hts in6 hown hK.1 hP 0 nb_a0 rfl 5 (by decide) w_3 (fun _ h9 => h9) rfl dX6_fits_59 ?_
                  refine lv_iload_n hx hb dX6_fits_62 rfl (lv_at hl 1 rfl) ?_
                  refine nb_ald (t0 := 3) (E := RX2) (v := (3 : Int32)) hx hb hK hP nb_a42 rfl c_36 (nb_lit rfl) rfl dX6_fits_63 ?_
                  obtain ⟨r_39, M_39, e_39, h⟩ := nb_pE h
                  refine nb_callV (n := 2) (As := [.ref (ad 1), .ref (ad 49)]) (rest := []) hx hb hml hown hts hK hZ hP hS (k_X4_fitsBy_38_1_49 had M N e_39) gX6_fits_X4_fitsBy rfl (by decide +kernel) (nb_rm (Nat.le_of_ble_eq_true rfl) (Nat.le_of_ble_eq_true rfl)) nb_a38 rfl rfl rfl hl.1 rfl (Nat.le_of_ble_eq_true rfl) dX6_fits_64 (fun H locs hP hS => ?_)
                  refine W.eq (g2 := F0 m 67 ls [.int r_39]) rfl ?_
                  refine lv_istore (lv' := [(4, .int r_39), (0, .ref (ad 0)), (1, .int p0), (2, .int p1), (3, .int p2)]) hx hb dX6_fits_67 hl (by decide) rfl (fun ls hl => ?_)
                  refine lv_iload_n hx hb dX6_fits_69 rfl (lv_at hl 4 rfl) ?_
                  refine lv_if_ne (tgt := 76) hx hb dX6_fits_70 (by decide) (fun c_40 => ?_) (fun c_40 => ?_)
                  · have h := nb_f c_40 h
                    refine lv_iload hx hb dX6_fits_76 (lv_at hl 0 rfl) ?_
                    refine lv_if_ne (tgt := 89) hx hb dX6_fits_78 (by decide) (fun c_41 => ?_) (fun c_41 => ?_)
                    · have h := nb_f c_41 h
                      refine lv_iload hx hb dX6_fits_89 (lv_at hl 0 rfl) ?_
                      obtain ⟨r_42, e_42, h⟩ := nb_oE h
                      refine nb_callS (n := 1) (As := [.int r_39]) (rest := []) hx hb hml hown hts hK hZ hP hS (k_X6_lowestIn had M_39 N r_39 e_42) gX6_fits_X6_lowestIn rfl (by decide +kernel) (nb_rm (Nat.le_of_ble_eq_true rfl) (Nat.le_of_ble_eq_true rfl)) rfl hl.1 rfl (Nat.le_of_ble_eq_true rfl) dX6_fits_91 (fun H locs hP hS => ?_)
                      refine W.eq (g2 := F0 m 94 ls [.int r_42]) rfl ?_
                      obtain ⟨rfl, rfl⟩ := nb_e2 h
                      exact nb_iret hx hb hr hlk hP hS dX6_fits_94
                    · have h := nb_t c_41 h
                      refine lv_aload_n hx hb dX6_fits_81 rfl (lv_at hl 1 rfl) ?_
                      refine lv_iconst (v := (2 : Int32)) hx hb dX6_fits_82 (by decide) ?_
                      obtain ⟨r_43, M_43, e_43, h⟩ := nb_pE h
                      refine nb_callV (n := 1) (As := [.int (2 : Int32)]) (rest := []) hx hb hml hown hts hK hZ hP hS (k_X6_fail had M_39 N (2 : Int32) e_43) gX6_fits_X6_fail rfl (by decide +kernel) (nb_rm (Nat.le_of_ble_eq_true rfl) (Nat.le_of_ble_eq_true rfl)) nb_a0 rfl rfl rfl hl.1 rfl (Nat.le_of_ble_eq_true rfl) dX6_fits_83 (fun H locs hP hS => ?_)
                      refine W.eq (g2 := F0 m 86 ls [.int r_43]) rfl ?_
                      refine lv_goto (tgt := 94) hx hb dX6_fits_86 (by decide) ?_
                      obtain ⟨rfl, rfl⟩ := nb_e2 h
                      exact nb_iret hx hb hr hlk hP hS dX6_fits_94
                  · have h := nb_t c_40 h
                    refine lv_iload hx hb dX6_fits_73 (lv_at hl 0 rfl) ?_
                    obtain ⟨rfl, rfl⟩ := nb_e2 h
                    exact nb_iret hx hb hr hlk hP hS dX6_fits_75
                · have h := nb_f c_38 h
                  refine lv_aload_n hx hb dX6_fits_44 rfl (lv_at hl 0 rfl) ?_
                  refine lv_iconst (v := (2 : Int32)) hx hb dX6_fits_45 (by decide) ?_
                  obtain ⟨r_44, M_44, e_44, h⟩ := nb_pE h
                  refine nb_callV (n := 1) (As := [.int (2 : Int32)]) (rest := []) hx hb hml hown hts hK hZ hP hS (k_X6_fail had M N (2 : Int32) e_44) gX6_fits_X6_fail rfl (by decide +kernel) (nb_rm (Nat.le_of_ble_eq_true rfl) (Nat.le_of_ble_eq_true rfl)) nb_a0 rfl rfl rfl hl.1 rfl (Nat.le_of_ble_eq_true rfl) dX6_fits_46 (fun H locs hP hS => ?_)
                  refine W.eq (g2 := F0 m 49 ls [.int r_44]) rfl ?_
                  obtain ⟨rfl, rfl⟩ := nb_e2 h
                  exact nb_iret hx hb hr hlk hP hS dX6_fits_49
              · have h := nb_f c_36 h
                cases h
      · have h := nb_t c_8 h
        refine lv_aload_n hx hb dX6_fits_26 rfl (lv_at hl 0 rfl) ?_
        refine lv_iconst (v := (1 : Int32)) hx hb dX6_fits_27 (by decide) ?_
        obtain ⟨r_45, M_45, e_45, h⟩ := nb_pE h
        refine nb_callV (n := 1) (As := [.int (1 : Int32)]) (rest := []) hx hb hml hown hts hK hZ hP hS (k_X6_fail had M N (1 : Int32) e_45) gX6_fits_X6_fail rfl (by decide +kernel) (nb_rm (Nat.le_of_ble_eq_true rfl) (Nat.le_of_ble_eq_true rfl)) nb_a0 rfl rfl rfl hl.1 rfl (Nat.le_of_ble_eq_true rfl) dX6_fits_28 (fun H locs hP hS => ?_)
        refine W.eq (g2 := F0 m 31 ls [.int r_45]) rfl ?_
        obtain ⟨rfl, rfl⟩ := nb_e2 h
        exact nb_iret hx hb hr hlk hP hS dX6_fits_31
set_option maxHeartbeats 4000000 in
set_option maxRecDepth 100000 in
theorem k_X5_turnTo {M' : nb_M} (had : nb_AD ad b0) (M N : nb_M) (p0 : Int32) (p1 : Int32) (p2 : Int32) (h : f_X5_turnTo M p0 p1 p2 = M') : nb_C l D ad ca b0 yX5_turnTo wsX5_turnTo 0 [.ref (ad 40), .int p0, .int p1, .int p2] M N none M' N := by
  refine nb_of (cc := cX5_turnTo) (maxL := 4) (ret := none) (own := RX5) (by decide +kernel) rfl rfl (Nat.le_of_ble_eq_true rfl) ?_
  intro p e s m args below meth c ls X hP hS hl
  have hl : lv_has ls 4 [(0, .ref (ad 40)), (1, .int p0), (2, .int p1), (3, .int p2)] := hl
  obtain ⟨hx, hb, hml, hown, hts, hr, hlk, hK, hZ⟩ := id X
  have w_1 := hts (.fieldLink RX5 15 "NineBreakages$Voices" "kind" "I") (by decide +kernel)
  have in5 : ∀ w ∈ u_ws RX5 TX5 6, w ∈ wsX5_turnTo := fun w q => List.mem_cons_of_mem _ (List.mem_append_right _ q)
  have w_3 := hts (.fieldLink RX5 19 "NineBreakages$Voices" "k" "I") (by decide +kernel)
  have w_4 := hts (.fieldLink RX5 22 "NineBreakages$Voices" "m" "I") (by decide +kernel)
  have w_5 := hts (.fieldLink RX5 25 "NineBreakages$Voices" "traced" "I") (by decide +kernel)
  have w_6 := hts (.fieldLink RX5 28 "NineBreakages$Voices" "parted" "Z") (by decide +kernel)
  unfold f_X5_turnTo at h
  refine lv_aload_n hx hb dX5_turnTo_0 rfl (lv_at hl 0 rfl) ?_
  refine lv_iload_n hx hb dX5_turnTo_1 rfl (lv_at hl 1 rfl) ?_
  refine nb_put (C := RX5) (T := TX5) (NN := 6) hx hb had hts in5 tyX5 tyX5_ok nmX5 hown hK hP hS nb_a40 rfl 3 (by decide) w_1 rfl (ty := .int) (by decide +kernel) rfl rfl (Nat.le_of_ble_eq_true rfl) (nb_p40_3 _) dX5_turnTo_2 (fun H locs hP hS => ?_)
  obtain ⟨M_1, e_1, h⟩ := nb_nE h
  rw [e_1] at hP
  refine lv_aload_n hx hb dX5_turnTo_5 rfl (lv_at hl 0 rfl) ?_
  refine lv_iload_n hx hb dX5_turnTo_6 rfl (lv_at hl 2 rfl) ?_
  refine nb_put (C := RX5) (T := TX5) (NN := 6) hx hb had hts in5 tyX5 tyX5_ok nmX5 hown hK hP hS nb_a40 rfl 4 (by decide) w_3 rfl (ty := .int) (by decide +kernel) rfl rfl (Nat.le_of_ble_eq_true rfl) (nb_p40_4 _) dX5_turnTo_7 (fun H locs hP hS => ?_)
  obtain ⟨M_2, e_2, h⟩ := nb_nE h
  rw [e_2] at hP
  refine lv_aload_n hx hb dX5_turnTo_10 rfl (lv_at hl 0 rfl) ?_
  refine lv_iload_n hx hb dX5_turnTo_11 rfl (lv_at hl 3 rfl) ?_
  refine nb_put (C := RX5) (T := TX5) (NN := 6) hx hb had hts in5 tyX5 tyX5_ok nmX5 hown hK hP hS nb_a40 rfl 5 (by decide) w_4 rfl (ty := .int) (by decide +kernel) rfl rfl (Nat.le_of_ble_eq_true rfl) (nb_p40_5 _) dX5_turnTo_12 (fun H locs hP hS => ?_)
  obtain ⟨M_3, e_3, h⟩ := nb_nE h
  rw [e_3] at hP
  refine lv_aload_n hx hb dX5_turnTo_15 rfl (lv_at hl 0 rfl) ?_
  refine lv_iconst (v := (0 : Int32)) hx hb dX5_turnTo_16 (by decide) ?_
  refine nb_put (C := RX5) (T := TX5) (NN := 6) hx hb had hts in5 tyX5 tyX5_ok nmX5 hown hK hP hS nb_a40 rfl 1 (by decide) w_5 rfl (ty := .int) (by decide +kernel) rfl rfl (Nat.le_of_ble_eq_true rfl) (nb_p40_1 _) dX5_turnTo_17 (fun H locs hP hS => ?_)
  obtain ⟨M_4, e_4, h⟩ := nb_nE h
  rw [e_4] at hP
  refine lv_aload_n hx hb dX5_turnTo_20 rfl (lv_at hl 0 rfl) ?_
  refine lv_iconst (v := (0 : Int32)) hx hb dX5_turnTo_21 (by decide) ?_
  refine nb_put (C := RX5) (T := TX5) (NN := 6) hx hb had hts in5 tyX5 tyX5_ok nmX5 hown hK hP hS nb_a40 rfl 2 (by decide) w_6 rfl (ty := .boolean) (by decide +kernel) rfl rfl (Nat.le_of_ble_eq_true rfl) (nb_p40_2 _) dX5_turnTo_22 (fun H locs hP hS => ?_)
  obtain ⟨M_5, e_5, h⟩ := nb_nE h
  rw [e_5] at hP
  obtain rfl := nb_e3 h
  exact nb_vret hx hb hr hlk hP hS dX5_turnTo_25
set_option maxHeartbeats 4000000 in
set_option maxRecDepth 100000 in
theorem k_X5_begins {M' : nb_M} (had : nb_AD ad b0) (M N : nb_M) (p0 : Int32) (h : f_X5_begins M p0 = some (M')) : nb_C l D ad ca b0 yX5_begins wsX5_begins 0 [.ref (ad 40), .int p0] M N none M' N := by
  refine nb_of (cc := cX5_begins) (maxL := 2) (ret := none) (own := RX5) (by decide +kernel) rfl rfl (Nat.le_of_ble_eq_true rfl) ?_
  intro p e s m args below meth c ls X hP hS hl
  have hl : lv_has ls 2 [(0, .ref (ad 40)), (1, .int p0)] := hl
  obtain ⟨hx, hb, hml, hown, hts, hr, hlk, hK, hZ⟩ := id X
  have w_1 := hts (.fieldLink RX5 25 "NineBreakages$Voices" "traced" "I") (by decide +kernel)
  have in5 : ∀ w ∈ u_ws RX5 TX5 6, w ∈ wsX5_begins := fun w q => List.mem_cons_of_mem _ (List.mem_append_right _ q)
  have w_3 := hts (.fieldLink RX5 9 "NineBreakages$Voices" "trace" "[I") (by decide +kernel)
  unfold f_X5_begins at h
  refine lv_aload_n hx hb dX5_begins_0 rfl (lv_at hl 0 rfl) ?_
  refine va_get (v := .int (M.1 40 1)) (C := RX5) (T := TX5) (N := 6) hx hb hts in5 hown hK.1 hP 40 nb_a40 rfl 1 (by decide) w_1 (fun _ h9 => h9) rfl dX5_begins_1 ?_
  refine lv_bipush (v := (30 : Int32)) hx hb dX5_begins_4 (by decide) ?_
  refine lv_icmp_ge (tgt := 29) hx hb dX5_begins_6 (by decide) (fun c_1 => ?_) (fun c_1 => ?_)
  · have h := nb_t c_1 h
    obtain rfl := nb_e1 h
    exact nb_vret hx hb hr hlk hP hS dX5_begins_29
  · have h := nb_f c_1 h
    refine lv_aload_n hx hb dX5_begins_9 rfl (lv_at hl 0 rfl) ?_
    refine va_get (v := .ref (ad 41)) (C := RX5) (T := TX5) (N := 6) hx hb hts in5 hown hK.1 hP 40 nb_a40 rfl 0 (by decide) w_3 (fun _ h9 => h9) rfl dX5_begins_10 ?_
    refine lv_aload_n hx hb dX5_begins_13 rfl (lv_at hl 0 rfl) ?_
    refine va_get (v := .int (M.1 40 1)) (C := RX5) (T := TX5) (N := 6) hx hb hts in5 hown hK.1 hP 40 nb_a40 rfl 1 (by decide) w_1 (fun _ h9 => h9) rfl dX5_begins_14 ?_
    refine lv_iload_n hx hb dX5_begins_17 rfl (lv_at hl 1 rfl) ?_
    obtain ⟨c_2, h⟩ := nb_c h
    refine nb_iast hx hb had hK hP hS nb_a41 c_2 (nb_t41 _ _) dX5_begins_18 (fun H locs hP hS => ?_)
    obtain ⟨M_3, e_3, h⟩ := nb_nE h
    rw [e_3] at hP
    refine lv_aload_n hx hb dX5_begins_19 rfl (lv_at hl 0 rfl) ?_
    refine lv_dup hx hb dX5_begins_20 rfl ?_
    refine va_get (v := .int (M_3.1 40 1)) (C := RX5) (T := TX5) (N := 6) hx hb hts in5 hown hK.1 hP 40 nb_a40 rfl 1 (by decide) w_1 (fun _ h9 => h9) rfl dX5_begins_21 ?_
    refine lv_iconst (v := (1 : Int32)) hx hb dX5_begins_24 (by decide) ?_
    refine lv_iadd hx hb dX5_begins_25 ?_
    refine nb_put (C := RX5) (T := TX5) (NN := 6) hx hb had hts in5 tyX5 tyX5_ok nmX5 hown hK hP hS nb_a40 rfl 1 (by decide) w_1 rfl (ty := .int) (by decide +kernel) rfl rfl (Nat.le_of_ble_eq_true rfl) (nb_p40_1 _) dX5_begins_26 (fun H locs hP hS => ?_)
    obtain ⟨M_4, e_4, h⟩ := nb_nE h
    rw [e_4] at hP
    obtain rfl := nb_e1 h
    exact nb_vret hx hb hr hlk hP hS dX5_begins_29
def g_VR (l : Launch) (D : va_G) (ad : Nat → Nat) (ca : Nat → ClassId) (b0 d s : Nat) (a b : Int32) (M N : nb_M) (r : Int32) (M' : nb_M) : Prop :=
  if s = 0 then nb_C l D ad ca b0 yX5_rings wsX5_rings (d + 1) [.ref (ad 40), .int a, .int b] M N (some (.int r)) M' N
  else True
theorem g_VR_0 {d : Nat} {a b : Int32} {M N : nb_M} {r : Int32} {M' : nb_M} (h : g_VR l D ad ca b0 d 0 a b M N r M') : nb_C l D ad ca b0 yX5_rings wsX5_rings (d + 1) [.ref (ad 40), .int a, .int b] M N (some (.int r)) M' N := h
set_option maxHeartbeats 4000000 in
set_option maxRecDepth 100000 in
theorem k_X5_rings {d : Nat} {r : Int32} {M' : nb_M} (had : nb_AD ad b0) (rc : Nat → nb_M → Int32 → Int32 → Option (Int32 × nb_M)) (hrc : ∀ (s : Nat) (M : nb_M) (a b : Int32) (r : Int32) (M' : nb_M), rc s M a b = some (r, M') → ∀ N : nb_M, g_VR l D ad ca b0 d s a b M N r M') (M N : nb_M) (p0 : Int32) (p1 : Int32) (h : f_X5_rings rc M p0 p1 = some (r, M')) : nb_C l D ad ca b0 yX5_rings wsX5_rings (d + 2) [.ref (ad 40), .int p0, .int p1] M N (some (.int r)) M' N := by
  refine nb_of (cc := cX5_rings) (maxL := 3) (ret := (some .int)) (own := RX5) (by decide +kernel) rfl rfl (Nat.le_of_ble_eq_true rfl) ?_
  intro p e s m args below meth c ls X hP hS hl
  have hl : lv_has ls 3 [(0, .ref (ad 40)), (1, .int p0), (2, .int p1)] := hl
  obtain ⟨hx, hb, hml, hown, hts, hr, hlk, hK, hZ⟩ := id X
  have w_1 := hts (.fieldLink RX5 19 "NineBreakages$Voices" "k" "I") (by decide +kernel)
  have in5 : ∀ w ∈ u_ws RX5 TX5 6, w ∈ wsX5_rings := fun w q => List.mem_cons_of_mem _ (List.mem_append_right _ q)
  unfold f_X5_rings at h
  refine lv_iload_n hx hb dX5_rings_0 rfl (lv_at hl 1 rfl) ?_
  refine nb_lsw [(1, 36), (4, 51), (6, 66)] 75 hx hb dX5_rings_1 (by decide +kernel) (by decide) (by decide +kernel) ?_
  refine nb_split (fun c_1 => ?_) (fun c_1 => ?_)
  · have h := nb_t c_1 h
    refine lv_aload_n hx hb dX5_rings_36 rfl (lv_at hl 0 rfl) ?_
    refine lv_bipush (v := (20 : Int32)) hx hb dX5_rings_37 (by decide) ?_
    obtain ⟨M_2, e_2, h⟩ := nb_oE h
    refine nb_callV (n := 1) (As := [.int (20 : Int32)]) (rest := []) hx hb hml hown hts hK hZ hP hS (k_X5_begins had M N (20 : Int32) e_2) gX5_rings_X5_begins rfl (by decide +kernel) (nb_rm (by omega) (Nat.le_of_ble_eq_true rfl)) nb_a40 rfl rfl rfl hl.1 rfl (Nat.le_of_ble_eq_true rfl) dX5_rings_39 (fun H locs hP hS => ?_)
    refine W.eq (g2 := F0 m 42 ls []) rfl ?_
    refine lv_aload_n hx hb dX5_rings_42 rfl (lv_at hl 0 rfl) ?_
    refine lv_iconst (v := (0 : Int32)) hx hb dX5_rings_43 (by decide) ?_
    refine lv_iload_n hx hb dX5_rings_44 rfl (lv_at hl 2 rfl) ?_
    obtain ⟨r_3, M_3, e_3, h⟩ := nb_pE h
    refine nb_callV (n := 2) (As := [.int (0 : Int32), .int p1]) (rest := []) hx hb hml hown hts hK hZ hP hS (g_VR_0 (hrc 0 _ (0 : Int32) p1 _ _ e_3 N)) gX5_rings_X5_rings rfl (by decide +kernel) (nb_rm (by omega) (Nat.le_of_ble_eq_true rfl)) nb_a40 rfl rfl rfl hl.1 rfl (Nat.le_of_ble_eq_true rfl) dX5_rings_45 (fun H locs hP hS => ?_)
    refine W.eq (g2 := F0 m 48 ls [.int r_3]) rfl ?_
    refine lv_iconst (v := (4 : Int32)) hx hb dX5_rings_48 (by decide) ?_
    refine lv_isub hx hb dX5_rings_49 ?_
    obtain ⟨rfl, rfl⟩ := nb_e2 h
    exact nb_iret hx hb hr hlk hP hS dX5_rings_50
  · have h := nb_f c_1 h
    refine nb_split (fun c_4 => ?_) (fun c_4 => ?_)
    · have h := nb_t c_4 h
      refine lv_aload_n hx hb dX5_rings_51 rfl (lv_at hl 0 rfl) ?_
      refine lv_bipush (v := (50 : Int32)) hx hb dX5_rings_52 (by decide) ?_
      obtain ⟨M_5, e_5, h⟩ := nb_oE h
      refine nb_callV (n := 1) (As := [.int (50 : Int32)]) (rest := []) hx hb hml hown hts hK hZ hP hS (k_X5_begins had M N (50 : Int32) e_5) gX5_rings_X5_begins rfl (by decide +kernel) (nb_rm (by omega) (Nat.le_of_ble_eq_true rfl)) nb_a40 rfl rfl rfl hl.1 rfl (Nat.le_of_ble_eq_true rfl) dX5_rings_54 (fun H locs hP hS => ?_)
      refine W.eq (g2 := F0 m 57 ls []) rfl ?_
      refine lv_aload_n hx hb dX5_rings_57 rfl (lv_at hl 0 rfl) ?_
      refine lv_iconst (v := (1 : Int32)) hx hb dX5_rings_58 (by decide) ?_
      refine lv_iload_n hx hb dX5_rings_59 rfl (lv_at hl 2 rfl) ?_
      obtain ⟨r_6, M_6, e_6, h⟩ := nb_pE h
      refine nb_callV (n := 2) (As := [.int (1 : Int32), .int p1]) (rest := []) hx hb hml hown hts hK hZ hP hS (g_VR_0 (hrc 0 _ (1 : Int32) p1 _ _ e_6 N)) gX5_rings_X5_rings rfl (by decide +kernel) (nb_rm (by omega) (Nat.le_of_ble_eq_true rfl)) nb_a40 rfl rfl rfl hl.1 rfl (Nat.le_of_ble_eq_true rfl) dX5_rings_60 (fun H locs hP hS => ?_)
      refine W.eq (g2 := F0 m 63 ls [.int r_6]) rfl ?_
      refine lv_iconst (v := (3 : Int32)) hx hb dX5_rings_63 (by decide) ?_
      refine lv_imul hx hb dX5_rings_64 ?_
      obtain ⟨rfl, rfl⟩ := nb_e2 h
      exact nb_iret hx hb hr hlk hP hS dX5_rings_65
    · have h := nb_f c_4 h
      refine nb_split (fun c_7 => ?_) (fun c_7 => ?_)
      · have h := nb_t c_7 h
        refine lv_aload_n hx hb dX5_rings_66 rfl (lv_at hl 0 rfl) ?_
        refine lv_bipush (v := (70 : Int32)) hx hb dX5_rings_67 (by decide) ?_
        obtain ⟨M_8, e_8, h⟩ := nb_oE h
        refine nb_callV (n := 1) (As := [.int (70 : Int32)]) (rest := []) hx hb hml hown hts hK hZ hP hS (k_X5_begins had M N (70 : Int32) e_8) gX5_rings_X5_begins rfl (by decide +kernel) (nb_rm (by omega) (Nat.le_of_ble_eq_true rfl)) nb_a40 rfl rfl rfl hl.1 rfl (Nat.le_of_ble_eq_true rfl) dX5_rings_69 (fun H locs hP hS => ?_)
        refine W.eq (g2 := F0 m 72 ls []) rfl ?_
        refine lv_bipush (v := (9 : Int32)) hx hb dX5_rings_72 (by decide) ?_
        obtain ⟨rfl, rfl⟩ := nb_e2 h
        exact nb_iret hx hb hr hlk hP hS dX5_rings_74
      · have h := nb_f c_7 h
        refine W.eq (g2 := F0 m 75 ls []) rfl ?_
        refine lv_aload_n hx hb dX5_rings_75 rfl (lv_at hl 0 rfl) ?_
        refine lv_bipush (v := (10 : Int32)) hx hb dX5_rings_76 (by decide) ?_
        obtain ⟨M_9, e_9, h⟩ := nb_oE h
        refine nb_callV (n := 1) (As := [.int (10 : Int32)]) (rest := []) hx hb hml hown hts hK hZ hP hS (k_X5_begins had M N (10 : Int32) e_9) gX5_rings_X5_begins rfl (by decide +kernel) (nb_rm (by omega) (Nat.le_of_ble_eq_true rfl)) nb_a40 rfl rfl rfl hl.1 rfl (Nat.le_of_ble_eq_true rfl) dX5_rings_78 (fun H locs hP hS => ?_)
        refine W.eq (g2 := F0 m 81 ls []) rfl ?_
        refine lv_iload_n hx hb dX5_rings_81 rfl (lv_at hl 2 rfl) ?_
        refine lv_aload_n hx hb dX5_rings_82 rfl (lv_at hl 0 rfl) ?_
        refine va_get (v := .int (M_9.1 40 4)) (C := RX5) (T := TX5) (N := 6) hx hb hts in5 hown hK.1 hP 40 nb_a40 rfl 4 (by decide) w_1 (fun _ h9 => h9) rfl dX5_rings_83 ?_
        refine lv_iadd hx hb dX5_rings_86 ?_
        obtain ⟨rfl, rfl⟩ := nb_e2 h
        exact nb_iret hx hb hr hlk hP hS dX5_rings_87
theorem k_VR (had : nb_AD ad b0) : ∀ (d s : Nat) (M : nb_M) (a b : Int32) (r : Int32) (M' : nb_M), f_VR d s M a b = some (r, M') → ∀ N : nb_M, g_VR l D ad ca b0 d s a b M N r M' := by
  intro d
  induction d with
  | zero => intro s M a b r M' h; rw [f_VR] at h; cases h
  | succ d ih =>
    intro s M a b r M' h N
    rw [f_VR] at h
    by_cases s_0 : s = 0
    · have h := nb_t s_0 h
      subst s_0
      have q := k_X5_rings (l := l) (D := D) (ad := ad) (ca := ca) (b0 := b0) (d := d) had (f_VR d) ih M N a b h
      have e : d + 2 = d + 1 + 1 := by omega
      rw [e] at q
      exact q
    have h := nb_f s_0 h
    cases h
theorem k_X5_rings_x {r : Int32} {M' : nb_M} (had : nb_AD ad b0) (M N : nb_M) (p0 : Int32) (p1 : Int32) (h : f_X5_rings_x M p0 p1 = some (r, M')) : nb_C l D ad ca b0 yX5_rings wsX5_rings 65 [.ref (ad 40), .int p0, .int p1] M N (some (.int r)) M' N := g_VR_0 (k_VR had nb_dp 0 M p0 p1 _ _ h N)
def g_VS (l : Launch) (D : va_G) (ad : Nat → Nat) (ca : Nat → ClassId) (b0 d s : Nat) (a b : Int32) (M N : nb_M) (r : Int32) (M' : nb_M) : Prop :=
  if s = 0 then nb_C l D ad ca b0 yX5_slips wsX5_slips (d + 66) [.ref (ad 40), .int a, .int b] M N (some (.int r)) M' N
  else True
theorem g_VS_0 {d : Nat} {a b : Int32} {M N : nb_M} {r : Int32} {M' : nb_M} (h : g_VS l D ad ca b0 d 0 a b M N r M') : nb_C l D ad ca b0 yX5_slips wsX5_slips (d + 66) [.ref (ad 40), .int a, .int b] M N (some (.int r)) M' N := h
set_option maxHeartbeats 4000000 in
set_option maxRecDepth 100000 in
theorem k_X5_slips {d : Nat} {r : Int32} {M' : nb_M} (had : nb_AD ad b0) (rc : Nat → nb_M → Int32 → Int32 → Option (Int32 × nb_M)) (hrc : ∀ (s : Nat) (M : nb_M) (a b : Int32) (r : Int32) (M' : nb_M), rc s M a b = some (r, M') → ∀ N : nb_M, g_VS l D ad ca b0 d s a b M N r M') (M N : nb_M) (p0 : Int32) (p1 : Int32) (h : f_X5_slips rc M p0 p1 = some (r, M')) : nb_C l D ad ca b0 yX5_slips wsX5_slips (d + 67) [.ref (ad 40), .int p0, .int p1] M N (some (.int r)) M' N := by
  refine nb_of (cc := cX5_slips) (maxL := 3) (ret := (some .int)) (own := RX5) (by decide +kernel) rfl rfl (Nat.le_of_ble_eq_true rfl) ?_
  intro p e s m args below meth c ls X hP hS hl
  have hl : lv_has ls 3 [(0, .ref (ad 40)), (1, .int p0), (2, .int p1)] := hl
  obtain ⟨hx, hb, hml, hown, hts, hr, hlk, hK, hZ⟩ := id X
  have w_1 := hts (.fieldLink RX5 22 "NineBreakages$Voices" "m" "I") (by decide +kernel)
  have in5 : ∀ w ∈ u_ws RX5 TX5 6, w ∈ wsX5_slips := fun w q => List.mem_cons_of_mem _ (List.mem_append_right _ q)
  have w_3 := hts (.fieldLink RX5 15 "NineBreakages$Voices" "kind" "I") (by decide +kernel)
  unfold f_X5_slips at h
  refine lv_iload_n hx hb dX5_slips_0 rfl (lv_at hl 1 rfl) ?_
  refine nb_tsw [(2, 36), (5, 51), (6, 66)] 84 hx hb dX5_slips_1 (by decide +kernel) ?_
  refine nb_split (fun c_1 => ?_) (fun c_1 => ?_)
  · have h := nb_t c_1 h
    refine lv_aload_n hx hb dX5_slips_36 rfl (lv_at hl 0 rfl) ?_
    refine lv_bipush (v := (30 : Int32)) hx hb dX5_slips_37 (by decide) ?_
    obtain ⟨M_2, e_2, h⟩ := nb_oE h
    refine nb_callV (n := 1) (As := [.int (30 : Int32)]) (rest := []) hx hb hml hown hts hK hZ hP hS (k_X5_begins had M N (30 : Int32) e_2) gX5_slips_X5_begins rfl (by decide +kernel) (nb_rm (by omega) (Nat.le_of_ble_eq_true rfl)) nb_a40 rfl rfl rfl hl.1 rfl (Nat.le_of_ble_eq_true rfl) dX5_slips_39 (fun H locs hP hS => ?_)
    refine W.eq (g2 := F0 m 42 ls []) rfl ?_
    refine lv_iconst (v := (0 : Int32)) hx hb dX5_slips_42 (by decide) ?_
    refine lv_aload_n hx hb dX5_slips_43 rfl (lv_at hl 0 rfl) ?_
    refine lv_iconst (v := (0 : Int32)) hx hb dX5_slips_44 (by decide) ?_
    refine lv_iload_n hx hb dX5_slips_45 rfl (lv_at hl 2 rfl) ?_
    obtain ⟨r_3, M_3, e_3, h⟩ := nb_pE h
    refine nb_callV (n := 2) (As := [.int (0 : Int32), .int p1]) (rest := [.int (0 : Int32)]) hx hb hml hown hts hK hZ hP hS (g_VS_0 (hrc 0 _ (0 : Int32) p1 _ _ e_3 N)) gX5_slips_X5_slips rfl (by decide +kernel) (nb_rm (by omega) (Nat.le_of_ble_eq_true rfl)) nb_a40 rfl rfl rfl hl.1 rfl (Nat.le_of_ble_eq_true rfl) dX5_slips_46 (fun H locs hP hS => ?_)
    refine W.eq (g2 := F0 m 49 ls [.int r_3, .int (0 : Int32)]) rfl ?_
    refine lv_isub hx hb dX5_slips_49 ?_
    obtain ⟨rfl, rfl⟩ := nb_e2 h
    exact nb_iret hx hb hr hlk hP hS dX5_slips_50
  · have h := nb_f c_1 h
    refine nb_split (fun c_4 => ?_) (fun c_4 => ?_)
    · have h := nb_t c_4 h
      refine lv_aload_n hx hb dX5_slips_51 rfl (lv_at hl 0 rfl) ?_
      refine lv_bipush (v := (60 : Int32)) hx hb dX5_slips_52 (by decide) ?_
      obtain ⟨M_5, e_5, h⟩ := nb_oE h
      refine nb_callV (n := 1) (As := [.int (60 : Int32)]) (rest := []) hx hb hml hown hts hK hZ hP hS (k_X5_begins had M N (60 : Int32) e_5) gX5_slips_X5_begins rfl (by decide +kernel) (nb_rm (by omega) (Nat.le_of_ble_eq_true rfl)) nb_a40 rfl rfl rfl hl.1 rfl (Nat.le_of_ble_eq_true rfl) dX5_slips_54 (fun H locs hP hS => ?_)
      refine W.eq (g2 := F0 m 57 ls []) rfl ?_
      refine lv_aload_n hx hb dX5_slips_57 rfl (lv_at hl 0 rfl) ?_
      refine lv_iconst (v := (2 : Int32)) hx hb dX5_slips_58 (by decide) ?_
      refine lv_iload_n hx hb dX5_slips_59 rfl (lv_at hl 2 rfl) ?_
      refine lv_iconst (v := (1 : Int32)) hx hb dX5_slips_60 (by decide) ?_
      refine lv_iadd hx hb dX5_slips_61 ?_
      obtain ⟨r_6, M_6, e_6, h⟩ := nb_pE h
      refine nb_callV (n := 2) (As := [.int (2 : Int32), .int (p1 + (1 : Int32))]) (rest := []) hx hb hml hown hts hK hZ hP hS (g_VS_0 (hrc 0 _ (2 : Int32) (p1 + (1 : Int32)) _ _ e_6 N)) gX5_slips_X5_slips rfl (by decide +kernel) (nb_rm (by omega) (Nat.le_of_ble_eq_true rfl)) nb_a40 rfl rfl rfl hl.1 rfl (Nat.le_of_ble_eq_true rfl) dX5_slips_62 (fun H locs hP hS => ?_)
      refine W.eq (g2 := F0 m 65 ls [.int r_6]) rfl ?_
      obtain ⟨rfl, rfl⟩ := nb_e2 h
      exact nb_iret hx hb hr hlk hP hS dX5_slips_65
    · have h := nb_f c_4 h
      refine nb_split (fun c_7 => ?_) (fun c_7 => ?_)
      · have h := nb_t c_7 h
        refine lv_aload_n hx hb dX5_slips_66 rfl (lv_at hl 0 rfl) ?_
        refine lv_bipush (v := (71 : Int32)) hx hb dX5_slips_67 (by decide) ?_
        obtain ⟨M_8, e_8, h⟩ := nb_oE h
        refine nb_callV (n := 1) (As := [.int (71 : Int32)]) (rest := []) hx hb hml hown hts hK hZ hP hS (k_X5_begins had M N (71 : Int32) e_8) gX5_slips_X5_begins rfl (by decide +kernel) (nb_rm (by omega) (Nat.le_of_ble_eq_true rfl)) nb_a40 rfl rfl rfl hl.1 rfl (Nat.le_of_ble_eq_true rfl) dX5_slips_69 (fun H locs hP hS => ?_)
        refine W.eq (g2 := F0 m 72 ls []) rfl ?_
        refine lv_aload_n hx hb dX5_slips_72 rfl (lv_at hl 0 rfl) ?_
        refine lv_iconst (v := (0 : Int32)) hx hb dX5_slips_73 (by decide) ?_
        refine lv_iload_n hx hb dX5_slips_74 rfl (lv_at hl 2 rfl) ?_
        obtain ⟨r_9, M_9, e_9, h⟩ := nb_pE h
        refine nb_callV (n := 2) (As := [.int (0 : Int32), .int p1]) (rest := []) hx hb hml hown hts hK hZ hP hS (g_VS_0 (hrc 0 _ (0 : Int32) p1 _ _ e_9 N)) gX5_slips_X5_slips rfl (by decide +kernel) (nb_rm (by omega) (Nat.le_of_ble_eq_true rfl)) nb_a40 rfl rfl rfl hl.1 rfl (Nat.le_of_ble_eq_true rfl) dX5_slips_75 (fun H locs hP hS => ?_)
        refine W.eq (g2 := F0 m 78 ls [.int r_9]) rfl ?_
        refine lv_aload_n hx hb dX5_slips_78 rfl (lv_at hl 0 rfl) ?_
        refine va_get (v := .int (M_9.1 40 5)) (C := RX5) (T := TX5) (N := 6) hx hb hts in5 hown hK.1 hP 40 nb_a40 rfl 5 (by decide) w_1 (fun _ h9 => h9) rfl dX5_slips_79 ?_
        refine lv_iadd hx hb dX5_slips_82 ?_
        obtain ⟨rfl, rfl⟩ := nb_e2 h
        exact nb_iret hx hb hr hlk hP hS dX5_slips_83
      · have h := nb_f c_7 h
        refine W.eq (g2 := F0 m 84 ls []) rfl ?_
        refine lv_aload_n hx hb dX5_slips_84 rfl (lv_at hl 0 rfl) ?_
        refine lv_bipush (v := (11 : Int32)) hx hb dX5_slips_85 (by decide) ?_
        obtain ⟨M_10, e_10, h⟩ := nb_oE h
        refine nb_callV (n := 1) (As := [.int (11 : Int32)]) (rest := []) hx hb hml hown hts hK hZ hP hS (k_X5_begins had M N (11 : Int32) e_10) gX5_slips_X5_begins rfl (by decide +kernel) (nb_rm (by omega) (Nat.le_of_ble_eq_true rfl)) nb_a40 rfl rfl rfl hl.1 rfl (Nat.le_of_ble_eq_true rfl) dX5_slips_87 (fun H locs hP hS => ?_)
        refine W.eq (g2 := F0 m 90 ls []) rfl ?_
        refine lv_aload_n hx hb dX5_slips_90 rfl (lv_at hl 0 rfl) ?_
        refine lv_aload_n hx hb dX5_slips_91 rfl (lv_at hl 0 rfl) ?_
        refine va_get (v := .int (M_10.1 40 3)) (C := RX5) (T := TX5) (N := 6) hx hb hts in5 hown hK.1 hP 40 nb_a40 rfl 3 (by decide) w_3 (fun _ h9 => h9) rfl dX5_slips_92 ?_
        refine lv_iload_n hx hb dX5_slips_95 rfl (lv_at hl 2 rfl) ?_
        obtain ⟨r_11, M_11, e_11, h⟩ := nb_pE h
        refine nb_callV (n := 2) (As := [.int (M_10.1 40 3), .int p1]) (rest := []) hx hb hml hown hts hK hZ hP hS (k_X5_rings_x had M_10 N (M_10.1 40 3) p1 e_11) gX5_slips_X5_rings rfl (by decide +kernel) (nb_rm (by omega) (Nat.le_of_ble_eq_true rfl)) nb_a40 rfl rfl rfl hl.1 rfl (Nat.le_of_ble_eq_true rfl) dX5_slips_96 (fun H locs hP hS => ?_)
        refine W.eq (g2 := F0 m 99 ls [.int r_11]) rfl ?_
        refine lv_iconst (v := (2 : Int32)) hx hb dX5_slips_99 (by decide) ?_
        refine lv_imul hx hb dX5_slips_100 ?_
        obtain ⟨rfl, rfl⟩ := nb_e2 h
        exact nb_iret hx hb hr hlk hP hS dX5_slips_101
theorem k_VS (had : nb_AD ad b0) : ∀ (d s : Nat) (M : nb_M) (a b : Int32) (r : Int32) (M' : nb_M), f_VS d s M a b = some (r, M') → ∀ N : nb_M, g_VS l D ad ca b0 d s a b M N r M' := by
  intro d
  induction d with
  | zero => intro s M a b r M' h; rw [f_VS] at h; cases h
  | succ d ih =>
    intro s M a b r M' h N
    rw [f_VS] at h
    by_cases s_0 : s = 0
    · have h := nb_t s_0 h
      subst s_0
      have q := k_X5_slips (l := l) (D := D) (ad := ad) (ca := ca) (b0 := b0) (d := d) had (f_VS d) ih M N a b h
      have e : d + 67 = d + 1 + 66 := by omega
      rw [e] at q
      exact q
    have h := nb_f s_0 h
    cases h
theorem k_X5_slips_x {r : Int32} {M' : nb_M} (had : nb_AD ad b0) (M N : nb_M) (p0 : Int32) (p1 : Int32) (h : f_X5_slips_x M p0 p1 = some (r, M')) : nb_C l D ad ca b0 yX5_slips wsX5_slips 130 [.ref (ad 40), .int p0, .int p1] M N (some (.int r)) M' N := g_VS_0 (k_VS had nb_dp 0 M p0 p1 _ _ h N)
def g_VC (l : Launch) (D : va_G) (ad : Nat → Nat) (ca : Nat → ClassId) (b0 d s : Nat) (a b : Int32) (M N : nb_M) (r : Int32) (M' : nb_M) : Prop :=
  if s = 0 then nb_C l D ad ca b0 yX5_cracks wsX5_cracks (d + 131) [.ref (ad 40), .int a, .int b] M N (some (.int r)) M' N
  else True
theorem g_VC_0 {d : Nat} {a b : Int32} {M N : nb_M} {r : Int32} {M' : nb_M} (h : g_VC l D ad ca b0 d 0 a b M N r M') : nb_C l D ad ca b0 yX5_cracks wsX5_cracks (d + 131) [.ref (ad 40), .int a, .int b] M N (some (.int r)) M' N := h
set_option maxHeartbeats 4000000 in
set_option maxRecDepth 100000 in
theorem k_X5_cracks {d : Nat} {r : Int32} {M' : nb_M} (had : nb_AD ad b0) (rc : Nat → nb_M → Int32 → Int32 → Option (Int32 × nb_M)) (hrc : ∀ (s : Nat) (M : nb_M) (a b : Int32) (r : Int32) (M' : nb_M), rc s M a b = some (r, M') → ∀ N : nb_M, g_VC l D ad ca b0 d s a b M N r M') (M N : nb_M) (p0 : Int32) (p1 : Int32) (h : f_X5_cracks rc M p0 p1 = some (r, M')) : nb_C l D ad ca b0 yX5_cracks wsX5_cracks (d + 132) [.ref (ad 40), .int p0, .int p1] M N (some (.int r)) M' N := by
  refine nb_of (cc := cX5_cracks) (maxL := 3) (ret := (some .int)) (own := RX5) (by decide +kernel) rfl rfl (Nat.le_of_ble_eq_true rfl) ?_
  intro p e s m args below meth c ls X hP hS hl
  have hl : lv_has ls 3 [(0, .ref (ad 40)), (1, .int p0), (2, .int p1)] := hl
  obtain ⟨hx, hb, hml, hown, hts, hr, hlk, hK, hZ⟩ := id X
  have w_1 := hts (.fieldLink RX5 19 "NineBreakages$Voices" "k" "I") (by decide +kernel)
  have in5 : ∀ w ∈ u_ws RX5 TX5 6, w ∈ wsX5_cracks := fun w q => List.mem_cons_of_mem _ (List.mem_append_right _ q)
  have w_3 := hts (.fieldLink RX5 15 "NineBreakages$Voices" "kind" "I") (by decide +kernel)
  have w_4 := hts (.fieldLink RX5 22 "NineBreakages$Voices" "m" "I") (by decide +kernel)
  unfold f_X5_cracks at h
  refine lv_iload_n hx hb dX5_cracks_0 rfl (lv_at hl 1 rfl) ?_
  refine nb_lsw [(3, 28), (4, 43)] 61 hx hb dX5_cracks_1 (by decide +kernel) (by decide) (by decide +kernel) ?_
  refine nb_split (fun c_1 => ?_) (fun c_1 => ?_)
  · have h := nb_t c_1 h
    refine lv_aload_n hx hb dX5_cracks_28 rfl (lv_at hl 0 rfl) ?_
    refine lv_bipush (v := (40 : Int32)) hx hb dX5_cracks_29 (by decide) ?_
    obtain ⟨M_2, e_2, h⟩ := nb_oE h
    refine nb_callV (n := 1) (As := [.int (40 : Int32)]) (rest := []) hx hb hml hown hts hK hZ hP hS (k_X5_begins had M N (40 : Int32) e_2) gX5_cracks_X5_begins rfl (by decide +kernel) (nb_rm (by omega) (Nat.le_of_ble_eq_true rfl)) nb_a40 rfl rfl rfl hl.1 rfl (Nat.le_of_ble_eq_true rfl) dX5_cracks_31 (fun H locs hP hS => ?_)
    refine W.eq (g2 := F0 m 34 ls []) rfl ?_
    refine lv_aload_n hx hb dX5_cracks_34 rfl (lv_at hl 0 rfl) ?_
    refine lv_iconst (v := (0 : Int32)) hx hb dX5_cracks_35 (by decide) ?_
    refine lv_iload_n hx hb dX5_cracks_36 rfl (lv_at hl 2 rfl) ?_
    refine lv_iconst (v := (2 : Int32)) hx hb dX5_cracks_37 (by decide) ?_
    refine lv_idiv hx hb dX5_cracks_38 (by decide) ?_
    obtain ⟨r_3, M_3, e_3, h⟩ := nb_pE h
    refine nb_callV (n := 2) (As := [.int (0 : Int32), .int (p1 / (2 : Int32))]) (rest := []) hx hb hml hown hts hK hZ hP hS (g_VC_0 (hrc 0 _ (0 : Int32) (p1 / (2 : Int32)) _ _ e_3 N)) gX5_cracks_X5_cracks rfl (by decide +kernel) (nb_rm (by omega) (Nat.le_of_ble_eq_true rfl)) nb_a40 rfl rfl rfl hl.1 rfl (Nat.le_of_ble_eq_true rfl) dX5_cracks_39 (fun H locs hP hS => ?_)
    refine W.eq (g2 := F0 m 42 ls [.int r_3]) rfl ?_
    obtain ⟨rfl, rfl⟩ := nb_e2 h
    exact nb_iret hx hb hr hlk hP hS dX5_cracks_42
  · have h := nb_f c_1 h
    refine nb_split (fun c_4 => ?_) (fun c_4 => ?_)
    · have h := nb_t c_4 h
      refine lv_aload_n hx hb dX5_cracks_43 rfl (lv_at hl 0 rfl) ?_
      refine lv_bipush (v := (51 : Int32)) hx hb dX5_cracks_44 (by decide) ?_
      obtain ⟨M_5, e_5, h⟩ := nb_oE h
      refine nb_callV (n := 1) (As := [.int (51 : Int32)]) (rest := []) hx hb hml hown hts hK hZ hP hS (k_X5_begins had M N (51 : Int32) e_5) gX5_cracks_X5_begins rfl (by decide +kernel) (nb_rm (by omega) (Nat.le_of_ble_eq_true rfl)) nb_a40 rfl rfl rfl hl.1 rfl (Nat.le_of_ble_eq_true rfl) dX5_cracks_46 (fun H locs hP hS => ?_)
      refine W.eq (g2 := F0 m 49 ls []) rfl ?_
      refine lv_aload_n hx hb dX5_cracks_49 rfl (lv_at hl 0 rfl) ?_
      refine lv_iconst (v := (1 : Int32)) hx hb dX5_cracks_50 (by decide) ?_
      refine lv_iload_n hx hb dX5_cracks_51 rfl (lv_at hl 2 rfl) ?_
      obtain ⟨r_6, M_6, e_6, h⟩ := nb_pE h
      refine nb_callV (n := 2) (As := [.int (1 : Int32), .int p1]) (rest := []) hx hb hml hown hts hK hZ hP hS (g_VC_0 (hrc 0 _ (1 : Int32) p1 _ _ e_6 N)) gX5_cracks_X5_cracks rfl (by decide +kernel) (nb_rm (by omega) (Nat.le_of_ble_eq_true rfl)) nb_a40 rfl rfl rfl hl.1 rfl (Nat.le_of_ble_eq_true rfl) dX5_cracks_52 (fun H locs hP hS => ?_)
      refine W.eq (g2 := F0 m 55 ls [.int r_6]) rfl ?_
      refine lv_aload_n hx hb dX5_cracks_55 rfl (lv_at hl 0 rfl) ?_
      refine va_get (v := .int (M_6.1 40 4)) (C := RX5) (T := TX5) (N := 6) hx hb hts in5 hown hK.1 hP 40 nb_a40 rfl 4 (by decide) w_1 (fun _ h9 => h9) rfl dX5_cracks_56 ?_
      refine lv_ixor hx hb dX5_cracks_59 ?_
      obtain ⟨rfl, rfl⟩ := nb_e2 h
      exact nb_iret hx hb hr hlk hP hS dX5_cracks_60
    · have h := nb_f c_4 h
      refine W.eq (g2 := F0 m 61 ls []) rfl ?_
      refine lv_aload_n hx hb dX5_cracks_61 rfl (lv_at hl 0 rfl) ?_
      refine lv_bipush (v := (12 : Int32)) hx hb dX5_cracks_62 (by decide) ?_
      obtain ⟨M_7, e_7, h⟩ := nb_oE h
      refine nb_callV (n := 1) (As := [.int (12 : Int32)]) (rest := []) hx hb hml hown hts hK hZ hP hS (k_X5_begins had M N (12 : Int32) e_7) gX5_cracks_X5_begins rfl (by decide +kernel) (nb_rm (by omega) (Nat.le_of_ble_eq_true rfl)) nb_a40 rfl rfl rfl hl.1 rfl (Nat.le_of_ble_eq_true rfl) dX5_cracks_64 (fun H locs hP hS => ?_)
      refine W.eq (g2 := F0 m 67 ls []) rfl ?_
      refine lv_aload_n hx hb dX5_cracks_67 rfl (lv_at hl 0 rfl) ?_
      refine lv_aload_n hx hb dX5_cracks_68 rfl (lv_at hl 0 rfl) ?_
      refine va_get (v := .int (M_7.1 40 3)) (C := RX5) (T := TX5) (N := 6) hx hb hts in5 hown hK.1 hP 40 nb_a40 rfl 3 (by decide) w_3 (fun _ h9 => h9) rfl dX5_cracks_69 ?_
      refine lv_iload_n hx hb dX5_cracks_72 rfl (lv_at hl 2 rfl) ?_
      obtain ⟨r_8, M_8, e_8, h⟩ := nb_pE h
      refine nb_callV (n := 2) (As := [.int (M_7.1 40 3), .int p1]) (rest := []) hx hb hml hown hts hK hZ hP hS (k_X5_slips_x had M_7 N (M_7.1 40 3) p1 e_8) gX5_cracks_X5_slips rfl (by decide +kernel) (nb_rm (by omega) (Nat.le_of_ble_eq_true rfl)) nb_a40 rfl rfl rfl hl.1 rfl (Nat.le_of_ble_eq_true rfl) dX5_cracks_73 (fun H locs hP hS => ?_)
      refine W.eq (g2 := F0 m 76 ls [.int r_8]) rfl ?_
      refine lv_aload_n hx hb dX5_cracks_76 rfl (lv_at hl 0 rfl) ?_
      refine va_get (v := .int (M_8.1 40 5)) (C := RX5) (T := TX5) (N := 6) hx hb hts in5 hown hK.1 hP 40 nb_a40 rfl 5 (by decide) w_4 (fun _ h9 => h9) rfl dX5_cracks_77 ?_
      refine lv_isub hx hb dX5_cracks_80 ?_
      obtain ⟨rfl, rfl⟩ := nb_e2 h
      exact nb_iret hx hb hr hlk hP hS dX5_cracks_81
theorem k_VC (had : nb_AD ad b0) : ∀ (d s : Nat) (M : nb_M) (a b : Int32) (r : Int32) (M' : nb_M), f_VC d s M a b = some (r, M') → ∀ N : nb_M, g_VC l D ad ca b0 d s a b M N r M' := by
  intro d
  induction d with
  | zero => intro s M a b r M' h; rw [f_VC] at h; cases h
  | succ d ih =>
    intro s M a b r M' h N
    rw [f_VC] at h
    by_cases s_0 : s = 0
    · have h := nb_t s_0 h
      subst s_0
      have q := k_X5_cracks (l := l) (D := D) (ad := ad) (ca := ca) (b0 := b0) (d := d) had (f_VC d) ih M N a b h
      have e : d + 132 = d + 1 + 131 := by omega
      rw [e] at q
      exact q
    have h := nb_f s_0 h
    cases h
theorem k_X5_cracks_x {r : Int32} {M' : nb_M} (had : nb_AD ad b0) (M N : nb_M) (p0 : Int32) (p1 : Int32) (h : f_X5_cracks_x M p0 p1 = some (r, M')) : nb_C l D ad ca b0 yX5_cracks wsX5_cracks 195 [.ref (ad 40), .int p0, .int p1] M N (some (.int r)) M' N := g_VC_0 (k_VC had nb_dp 0 M p0 p1 _ _ h N)
def g_VP (l : Launch) (D : va_G) (ad : Nat → Nat) (ca : Nat → ClassId) (b0 d s : Nat) (a b : Int32) (M N : nb_M) (r : Int32) (M' : nb_M) : Prop :=
  if s = 0 then nb_C l D ad ca b0 yX5_parts wsX5_parts (d + 131) [.ref (ad 40), .int a, .int b] M N (some (.int r)) M' N
  else True
theorem g_VP_0 {d : Nat} {a b : Int32} {M N : nb_M} {r : Int32} {M' : nb_M} (h : g_VP l D ad ca b0 d 0 a b M N r M') : nb_C l D ad ca b0 yX5_parts wsX5_parts (d + 131) [.ref (ad 40), .int a, .int b] M N (some (.int r)) M' N := h
set_option maxHeartbeats 4000000 in
set_option maxRecDepth 100000 in
theorem w_X5_parts_10 {d : Nat} {N : nb_M} {r : Int32} {M' : nb_M} (had : nb_AD ad b0) (X : nb_X p s m args meth c cX5_parts 4 RX5 (some .int) wsX5_parts D ca b0) (rc : Nat → nb_M → Int32 → Int32 → Option (Int32 × nb_M)) (hrc : ∀ (s : Nat) (M : nb_M) (a b : Int32) (r : Int32) (M' : nb_M), rc s M a b = some (r, M') → ∀ N : nb_M, g_VP l D ad ca b0 d s a b M N r M') : ∀ (M : nb_M) (x2 : Int32), f_X5_parts_10 rc M x2 = some (r, M') → ∀ (H : Heap) (locs : List Loc), va_P D vwCl (nb_w ad ca M N) H → va_S (fun q => b0 ≤ q) s.heap H locs → ∀ ls : Array Slot, lv_has ls 4 [(0, .ref (ad 40)), (2, .int x2)] → W p l e (nb_R (d + 132)) s m args below meth c H locs 0 0 (nb_Q below args s D ad ca b0 (some (.int r)) M' N) (F0 m 10 ls []) := by
  obtain ⟨hx, hb, hml, hown, hts, hr, hlk, hK, hZ⟩ := id X
  have w_1 := hts (.fieldLink RX5 28 "NineBreakages$Voices" "parted" "Z") (by decide +kernel)
  have in5 : ∀ w ∈ u_ws RX5 TX5 6, w ∈ wsX5_parts := fun w q => List.mem_cons_of_mem _ (List.mem_append_right _ q)
  have w_3 := hts (.fieldLink RX5 15 "NineBreakages$Voices" "kind" "I") (by decide +kernel)
  intro M x2 h H locs hP hS ls hl
  unfold f_X5_parts_10 at h
  refine lv_aload_n hx hb dX5_parts_10 rfl (lv_at hl 0 rfl) ?_
  refine lv_bipush (v := (21 : Int32)) hx hb dX5_parts_11 (by decide) ?_
  obtain ⟨M_2, e_2, h⟩ := nb_oE h
  refine nb_callV (n := 1) (As := [.int (21 : Int32)]) (rest := []) hx hb hml hown hts hK hZ hP hS (k_X5_begins had M N (21 : Int32) e_2) gX5_parts_X5_begins rfl (by decide +kernel) (nb_rm (by omega) (Nat.le_of_ble_eq_true rfl)) nb_a40 rfl rfl rfl hl.1 rfl (Nat.le_of_ble_eq_true rfl) dX5_parts_13 (fun H locs hP hS => ?_)
  refine W.eq (g2 := F0 m 16 ls []) rfl ?_
  refine lv_aload_n hx hb dX5_parts_16 rfl (lv_at hl 0 rfl) ?_
  refine lv_iconst (v := (0 : Int32)) hx hb dX5_parts_17 (by decide) ?_
  refine lv_iload_n hx hb dX5_parts_18 rfl (lv_at hl 1 rfl) ?_
  obtain ⟨r_3, M_3, e_3, h⟩ := nb_pE h
  refine nb_callV (n := 2) (As := [.int (0 : Int32), .int x2]) (rest := []) hx hb hml hown hts hK hZ hP hS (g_VP_0 (hrc 0 _ (0 : Int32) x2 _ _ e_3 N)) gX5_parts_X5_parts rfl (by decide +kernel) (nb_rm (by omega) (Nat.le_of_ble_eq_true rfl)) nb_a40 rfl rfl rfl hl.1 rfl (Nat.le_of_ble_eq_true rfl) dX5_parts_19 (fun H locs hP hS => ?_)
  refine W.eq (g2 := F0 m 22 ls [.int r_3]) rfl ?_
  refine lv_istore_n (lv' := [(3, .int r_3), (0, .ref (ad 40)), (2, .int x2)]) hx hb dX5_parts_22 rfl hl (by decide) rfl (fun ls hl => ?_)
  refine lv_aload_n hx hb dX5_parts_23 rfl (lv_at hl 1 rfl) ?_
  refine va_get (v := .int (M_3.1 40 2)) (C := RX5) (T := TX5) (N := 6) hx hb hts in5 hown hK.1 hP 40 nb_a40 rfl 2 (by decide) w_1 (fun _ h9 => h9) rfl dX5_parts_24 ?_
  refine lv_if_eq (tgt := 34) hx hb dX5_parts_27 (by decide) (fun c_4 => ?_) (fun c_4 => ?_)
  · have h := nb_t c_4 h
    refine lv_iload_n hx hb dX5_parts_34 rfl (lv_at hl 0 rfl) ?_
    refine lv_aload_n hx hb dX5_parts_35 rfl (lv_at hl 1 rfl) ?_
    refine lv_aload_n hx hb dX5_parts_36 rfl (lv_at hl 1 rfl) ?_
    refine va_get (v := .int (M_3.1 40 3)) (C := RX5) (T := TX5) (N := 6) hx hb hts in5 hown hK.1 hP 40 nb_a40 rfl 3 (by decide) w_3 (fun _ h9 => h9) rfl dX5_parts_37 ?_
    refine lv_iconst (v := (1 : Int32)) hx hb dX5_parts_40 (by decide) ?_
    obtain ⟨r_5, M_5, e_5, h⟩ := nb_pE h
    refine nb_callV (n := 2) (As := [.int (M_3.1 40 3), .int (1 : Int32)]) (rest := [.int r_3]) hx hb hml hown hts hK hZ hP hS (k_X5_slips_x had M_3 N (M_3.1 40 3) (1 : Int32) e_5) gX5_parts_X5_slips rfl (by decide +kernel) (nb_rm (by omega) (Nat.le_of_ble_eq_true rfl)) nb_a40 rfl rfl rfl hl.1 rfl (Nat.le_of_ble_eq_true rfl) dX5_parts_41 (fun H locs hP hS => ?_)
    refine W.eq (g2 := F0 m 44 ls [.int r_5, .int r_3]) rfl ?_
    refine lv_iadd hx hb dX5_parts_44 ?_
    obtain ⟨rfl, rfl⟩ := nb_e2 h
    exact nb_iret hx hb hr hlk hP hS dX5_parts_45
  · have h := nb_f c_4 h
    refine lv_iconst (v := (0 : Int32)) hx hb dX5_parts_30 (by decide) ?_
    refine lv_goto (tgt := 45) hx hb dX5_parts_31 (by decide) ?_
    obtain ⟨rfl, rfl⟩ := nb_e2 h
    exact nb_iret hx hb hr hlk hP hS dX5_parts_45
set_option maxHeartbeats 4000000 in
set_option maxRecDepth 100000 in
theorem k_X5_parts {d : Nat} {r : Int32} {M' : nb_M} (had : nb_AD ad b0) (rc : Nat → nb_M → Int32 → Int32 → Option (Int32 × nb_M)) (hrc : ∀ (s : Nat) (M : nb_M) (a b : Int32) (r : Int32) (M' : nb_M), rc s M a b = some (r, M') → ∀ N : nb_M, g_VP l D ad ca b0 d s a b M N r M') (M N : nb_M) (p0 : Int32) (p1 : Int32) (h : f_X5_parts rc M p0 p1 = some (r, M')) : nb_C l D ad ca b0 yX5_parts wsX5_parts (d + 132) [.ref (ad 40), .int p0, .int p1] M N (some (.int r)) M' N := by
  refine nb_of (cc := cX5_parts) (maxL := 4) (ret := (some .int)) (own := RX5) (by decide +kernel) rfl rfl (Nat.le_of_ble_eq_true rfl) ?_
  intro p e s m args below meth c ls X hP hS hl
  have hl : lv_has ls 4 [(0, .ref (ad 40)), (1, .int p0), (2, .int p1)] := hl
  obtain ⟨hx, hb, hml, hown, hts, hr, hlk, hK, hZ⟩ := id X
  have w_1 := hts (.fieldLink RX5 22 "NineBreakages$Voices" "m" "I") (by decide +kernel)
  have in5 : ∀ w ∈ u_ws RX5 TX5 6, w ∈ wsX5_parts := fun w q => List.mem_cons_of_mem _ (List.mem_append_right _ q)
  have w_3 := hts (.fieldLink RX5 19 "NineBreakages$Voices" "k" "I") (by decide +kernel)
  have w_4 := hts (.fieldLink RX5 28 "NineBreakages$Voices" "parted" "Z") (by decide +kernel)
  unfold f_X5_parts at h
  refine lv_iload_n hx hb dX5_parts_0 rfl (lv_at hl 1 rfl) ?_
  refine lv_iconst (v := (1 : Int32)) hx hb dX5_parts_1 (by decide) ?_
  refine lv_icmp_eq (tgt := 10) hx hb dX5_parts_2 (by decide) (fun c_1 => ?_) (fun c_1 => ?_)
  · have h := nb_t c_1 h
    exact w_X5_parts_10 had X rc hrc _ _ h _ _ hP hS _ (lv_sub hl [0, 2] rfl)
  · have h := nb_f c_1 h
    refine lv_iload_n hx hb dX5_parts_5 rfl (lv_at hl 1 rfl) ?_
    refine lv_iconst (v := (4 : Int32)) hx hb dX5_parts_6 (by decide) ?_
    refine lv_icmp_ne (tgt := 46) hx hb dX5_parts_7 (by decide) (fun c_6 => ?_) (fun c_6 => ?_)
    · have h := nb_f c_6 h
      refine lv_aload_n hx hb dX5_parts_46 rfl (lv_at hl 0 rfl) ?_
      refine lv_bipush (v := (13 : Int32)) hx hb dX5_parts_47 (by decide) ?_
      obtain ⟨M_7, e_7, h⟩ := nb_oE h
      refine nb_callV (n := 1) (As := [.int (13 : Int32)]) (rest := []) hx hb hml hown hts hK hZ hP hS (k_X5_begins had M N (13 : Int32) e_7) gX5_parts_X5_begins rfl (by decide +kernel) (nb_rm (by omega) (Nat.le_of_ble_eq_true rfl)) nb_a40 rfl rfl rfl hl.1 rfl (Nat.le_of_ble_eq_true rfl) dX5_parts_49 (fun H locs hP hS => ?_)
      refine W.eq (g2 := F0 m 52 ls []) rfl ?_
      refine lv_aload_n hx hb dX5_parts_52 rfl (lv_at hl 0 rfl) ?_
      refine va_get (v := .int (M_7.1 40 5)) (C := RX5) (T := TX5) (N := 6) hx hb hts in5 hown hK.1 hP 40 nb_a40 rfl 5 (by decide) w_1 (fun _ h9 => h9) rfl dX5_parts_53 ?_
      refine lv_aload_n hx hb dX5_parts_56 rfl (lv_at hl 0 rfl) ?_
      refine va_get (v := .int (M_7.1 40 4)) (C := RX5) (T := TX5) (N := 6) hx hb hts in5 hown hK.1 hP 40 nb_a40 rfl 4 (by decide) w_3 (fun _ h9 => h9) rfl dX5_parts_57 ?_
      refine lv_isub hx hb dX5_parts_60 ?_
      refine lv_topi (fun v_8 e_8 => ?_)
      have h := nb_nA e_8 h
      refine lv_istore_n (lv' := [(3, .int v_8), (0, .ref (ad 40)), (1, .int p0), (2, .int p1)]) hx hb dX5_parts_61 rfl hl (by decide) rfl (fun ls hl => ?_)
      refine lv_aload_n hx hb dX5_parts_62 rfl (lv_at hl 1 rfl) ?_
      refine lv_iload_n hx hb dX5_parts_63 rfl (lv_at hl 0 rfl) ?_
      refine lv_if_ne (tgt := 71) hx hb dX5_parts_64 (by decide) (fun c_9 => ?_) (fun c_9 => ?_)
      · have h := nb_f c_9 h
        refine lv_iconst (v := (0 : Int32)) hx hb dX5_parts_71 (by decide) ?_
        refine nb_put (C := RX5) (T := TX5) (NN := 6) hx hb had hts in5 tyX5 tyX5_ok nmX5 hown hK hP hS nb_a40 rfl 2 (by decide) w_4 rfl (ty := .boolean) (by decide +kernel) rfl rfl (Nat.le_of_ble_eq_true rfl) (nb_p40_2 _) dX5_parts_72 (fun H locs hP hS => ?_)
        obtain ⟨M_10, e_10, h⟩ := nb_nE h
        rw [e_10] at hP
        refine lv_aload_n hx hb dX5_parts_75 rfl (lv_at hl 1 rfl) ?_
        refine va_get (v := .int (M_10.1 40 2)) (C := RX5) (T := TX5) (N := 6) hx hb hts in5 hown hK.1 hP 40 nb_a40 rfl 2 (by decide) w_4 (fun _ h9 => h9) rfl dX5_parts_76 ?_
        refine lv_if_eq (tgt := 86) hx hb dX5_parts_79 (by decide) (fun c_11 => ?_) (fun c_11 => ?_)
        · have h := nb_t c_11 h
          refine lv_iload_n hx hb dX5_parts_86 rfl (lv_at hl 3 rfl) ?_
          refine lv_iload_n hx hb dX5_parts_87 rfl (lv_at hl 0 rfl) ?_
          obtain ⟨c_12, h⟩ := nb_c h
          refine lv_idiv hx hb dX5_parts_88 c_12 ?_
          obtain ⟨rfl, rfl⟩ := nb_e2 h
          exact nb_iret hx hb hr hlk hP hS dX5_parts_89
        · have h := nb_f c_11 h
          refine lv_iconst (v := (0 : Int32)) hx hb dX5_parts_82 (by decide) ?_
          refine lv_goto (tgt := 89) hx hb dX5_parts_83 (by decide) ?_
          obtain ⟨rfl, rfl⟩ := nb_e2 h
          exact nb_iret hx hb hr hlk hP hS dX5_parts_89
      · have h := nb_t c_9 h
        refine lv_iconst (v := (1 : Int32)) hx hb dX5_parts_67 (by decide) ?_
        refine lv_goto (tgt := 72) hx hb dX5_parts_68 (by decide) ?_
        refine nb_put (C := RX5) (T := TX5) (NN := 6) hx hb had hts in5 tyX5 tyX5_ok nmX5 hown hK hP hS nb_a40 rfl 2 (by decide) w_4 rfl (ty := .boolean) (by decide +kernel) rfl rfl (Nat.le_of_ble_eq_true rfl) (nb_p40_2 _) dX5_parts_72 (fun H locs hP hS => ?_)
        obtain ⟨M_13, e_13, h⟩ := nb_nE h
        rw [e_13] at hP
        refine lv_aload_n hx hb dX5_parts_75 rfl (lv_at hl 1 rfl) ?_
        refine va_get (v := .int (M_13.1 40 2)) (C := RX5) (T := TX5) (N := 6) hx hb hts in5 hown hK.1 hP 40 nb_a40 rfl 2 (by decide) w_4 (fun _ h9 => h9) rfl dX5_parts_76 ?_
        refine lv_if_eq (tgt := 86) hx hb dX5_parts_79 (by decide) (fun c_14 => ?_) (fun c_14 => ?_)
        · have h := nb_t c_14 h
          refine lv_iload_n hx hb dX5_parts_86 rfl (lv_at hl 3 rfl) ?_
          refine lv_iload_n hx hb dX5_parts_87 rfl (lv_at hl 0 rfl) ?_
          obtain ⟨c_15, h⟩ := nb_c h
          refine lv_idiv hx hb dX5_parts_88 c_15 ?_
          obtain ⟨rfl, rfl⟩ := nb_e2 h
          exact nb_iret hx hb hr hlk hP hS dX5_parts_89
        · have h := nb_f c_14 h
          refine lv_iconst (v := (0 : Int32)) hx hb dX5_parts_82 (by decide) ?_
          refine lv_goto (tgt := 89) hx hb dX5_parts_83 (by decide) ?_
          obtain ⟨rfl, rfl⟩ := nb_e2 h
          exact nb_iret hx hb hr hlk hP hS dX5_parts_89
    · have h := nb_t c_6 h
      exact w_X5_parts_10 had X rc hrc _ _ h _ _ hP hS _ (lv_sub hl [0, 2] rfl)
theorem k_VP (had : nb_AD ad b0) : ∀ (d s : Nat) (M : nb_M) (a b : Int32) (r : Int32) (M' : nb_M), f_VP d s M a b = some (r, M') → ∀ N : nb_M, g_VP l D ad ca b0 d s a b M N r M' := by
  intro d
  induction d with
  | zero => intro s M a b r M' h; rw [f_VP] at h; cases h
  | succ d ih =>
    intro s M a b r M' h N
    rw [f_VP] at h
    by_cases s_0 : s = 0
    · have h := nb_t s_0 h
      subst s_0
      have q := k_X5_parts (l := l) (D := D) (ad := ad) (ca := ca) (b0 := b0) (d := d) had (f_VP d) ih M N a b h
      have e : d + 132 = d + 1 + 131 := by omega
      rw [e] at q
      exact q
    have h := nb_f s_0 h
    cases h
theorem k_X5_parts_x {r : Int32} {M' : nb_M} (had : nb_AD ad b0) (M N : nb_M) (p0 : Int32) (p1 : Int32) (h : f_X5_parts_x M p0 p1 = some (r, M')) : nb_C l D ad ca b0 yX5_parts wsX5_parts 195 [.ref (ad 40), .int p0, .int p1] M N (some (.int r)) M' N := g_VP_0 (k_VP had nb_dp 0 M p0 p1 _ _ h N)
set_option maxHeartbeats 4000000 in
set_option maxRecDepth 100000 in
theorem k_X5_say {r : Int32} {M' : nb_M} (had : nb_AD ad b0) (M N : nb_M) (p0 : Int32) (p1 : Int32) (h : f_X5_say M p0 p1 = some (r, M')) : nb_C l D ad ca b0 yX5_say wsX5_say 196 [.ref (ad 40), .int p0, .int p1] M N (some (.int r)) M' N := by
  refine nb_of (cc := cX5_say) (maxL := 3) (ret := (some .int)) (own := RX5) (by decide +kernel) rfl rfl (Nat.le_of_ble_eq_true rfl) ?_
  intro p e s m args below meth c ls X hP hS hl
  have hl : lv_has ls 3 [(0, .ref (ad 40)), (1, .int p0), (2, .int p1)] := hl
  obtain ⟨hx, hb, hml, hown, hts, hr, hlk, hK, hZ⟩ := id X
  have w_1 := hts (.fieldLink RX5 15 "NineBreakages$Voices" "kind" "I") (by decide +kernel)
  have in5 : ∀ w ∈ u_ws RX5 TX5 6, w ∈ wsX5_say := fun w q => List.mem_cons_of_mem _ (List.mem_append_right _ q)
  unfold f_X5_say at h
  refine lv_iload_n hx hb dX5_say_0 rfl (lv_at hl 1 rfl) ?_
  refine nb_tsw [(0, 28), (1, 38), (2, 48)] 58 hx hb dX5_say_1 (by decide +kernel) ?_
  refine nb_split (fun c_1 => ?_) (fun c_1 => ?_)
  · have h := nb_t c_1 h
    refine lv_aload_n hx hb dX5_say_28 rfl (lv_at hl 0 rfl) ?_
    refine lv_aload_n hx hb dX5_say_29 rfl (lv_at hl 0 rfl) ?_
    refine va_get (v := .int (M.1 40 3)) (C := RX5) (T := TX5) (N := 6) hx hb hts in5 hown hK.1 hP 40 nb_a40 rfl 3 (by decide) w_1 (fun _ h9 => h9) rfl dX5_say_30 ?_
    refine lv_iload_n hx hb dX5_say_33 rfl (lv_at hl 2 rfl) ?_
    obtain ⟨r_2, M_2, e_2, h⟩ := nb_pE h
    refine nb_callV (n := 2) (As := [.int (M.1 40 3), .int p1]) (rest := []) hx hb hml hown hts hK hZ hP hS (k_X5_rings_x had M N (M.1 40 3) p1 e_2) gX5_say_X5_rings rfl (by decide +kernel) (nb_rm (Nat.le_of_ble_eq_true rfl) (Nat.le_of_ble_eq_true rfl)) nb_a40 rfl rfl rfl hl.1 rfl (Nat.le_of_ble_eq_true rfl) dX5_say_34 (fun H locs hP hS => ?_)
    refine W.eq (g2 := F0 m 37 ls [.int r_2]) rfl ?_
    obtain ⟨rfl, rfl⟩ := nb_e2 h
    exact nb_iret hx hb hr hlk hP hS dX5_say_37
  · have h := nb_f c_1 h
    refine nb_split (fun c_3 => ?_) (fun c_3 => ?_)
    · have h := nb_t c_3 h
      refine lv_aload_n hx hb dX5_say_38 rfl (lv_at hl 0 rfl) ?_
      refine lv_aload_n hx hb dX5_say_39 rfl (lv_at hl 0 rfl) ?_
      refine va_get (v := .int (M.1 40 3)) (C := RX5) (T := TX5) (N := 6) hx hb hts in5 hown hK.1 hP 40 nb_a40 rfl 3 (by decide) w_1 (fun _ h9 => h9) rfl dX5_say_40 ?_
      refine lv_iload_n hx hb dX5_say_43 rfl (lv_at hl 2 rfl) ?_
      obtain ⟨r_4, M_4, e_4, h⟩ := nb_pE h
      refine nb_callV (n := 2) (As := [.int (M.1 40 3), .int p1]) (rest := []) hx hb hml hown hts hK hZ hP hS (k_X5_slips_x had M N (M.1 40 3) p1 e_4) gX5_say_X5_slips rfl (by decide +kernel) (nb_rm (Nat.le_of_ble_eq_true rfl) (Nat.le_of_ble_eq_true rfl)) nb_a40 rfl rfl rfl hl.1 rfl (Nat.le_of_ble_eq_true rfl) dX5_say_44 (fun H locs hP hS => ?_)
      refine W.eq (g2 := F0 m 47 ls [.int r_4]) rfl ?_
      obtain ⟨rfl, rfl⟩ := nb_e2 h
      exact nb_iret hx hb hr hlk hP hS dX5_say_47
    · have h := nb_f c_3 h
      refine nb_split (fun c_5 => ?_) (fun c_5 => ?_)
      · have h := nb_t c_5 h
        refine lv_aload_n hx hb dX5_say_48 rfl (lv_at hl 0 rfl) ?_
        refine lv_aload_n hx hb dX5_say_49 rfl (lv_at hl 0 rfl) ?_
        refine va_get (v := .int (M.1 40 3)) (C := RX5) (T := TX5) (N := 6) hx hb hts in5 hown hK.1 hP 40 nb_a40 rfl 3 (by decide) w_1 (fun _ h9 => h9) rfl dX5_say_50 ?_
        refine lv_iload_n hx hb dX5_say_53 rfl (lv_at hl 2 rfl) ?_
        obtain ⟨r_6, M_6, e_6, h⟩ := nb_pE h
        refine nb_callV (n := 2) (As := [.int (M.1 40 3), .int p1]) (rest := []) hx hb hml hown hts hK hZ hP hS (k_X5_cracks_x had M N (M.1 40 3) p1 e_6) gX5_say_X5_cracks rfl (by decide +kernel) (nb_rm (Nat.le_of_ble_eq_true rfl) (Nat.le_of_ble_eq_true rfl)) nb_a40 rfl rfl rfl hl.1 rfl (Nat.le_of_ble_eq_true rfl) dX5_say_54 (fun H locs hP hS => ?_)
        refine W.eq (g2 := F0 m 57 ls [.int r_6]) rfl ?_
        obtain ⟨rfl, rfl⟩ := nb_e2 h
        exact nb_iret hx hb hr hlk hP hS dX5_say_57
      · have h := nb_f c_5 h
        refine W.eq (g2 := F0 m 58 ls []) rfl ?_
        refine lv_aload_n hx hb dX5_say_58 rfl (lv_at hl 0 rfl) ?_
        refine lv_aload_n hx hb dX5_say_59 rfl (lv_at hl 0 rfl) ?_
        refine va_get (v := .int (M.1 40 3)) (C := RX5) (T := TX5) (N := 6) hx hb hts in5 hown hK.1 hP 40 nb_a40 rfl 3 (by decide) w_1 (fun _ h9 => h9) rfl dX5_say_60 ?_
        refine lv_iload_n hx hb dX5_say_63 rfl (lv_at hl 2 rfl) ?_
        obtain ⟨r_7, M_7, e_7, h⟩ := nb_pE h
        refine nb_callV (n := 2) (As := [.int (M.1 40 3), .int p1]) (rest := []) hx hb hml hown hts hK hZ hP hS (k_X5_parts_x had M N (M.1 40 3) p1 e_7) gX5_say_X5_parts rfl (by decide +kernel) (nb_rm (Nat.le_of_ble_eq_true rfl) (Nat.le_of_ble_eq_true rfl)) nb_a40 rfl rfl rfl hl.1 rfl (Nat.le_of_ble_eq_true rfl) dX5_say_64 (fun H locs hP hS => ?_)
        refine W.eq (g2 := F0 m 67 ls [.int r_7]) rfl ?_
        obtain ⟨rfl, rfl⟩ := nb_e2 h
        exact nb_iret hx hb hr hlk hP hS dX5_say_67
set_option maxHeartbeats 4000000 in
set_option maxRecDepth 100000 in
theorem k_X6_voice {r : Int32} {M' : nb_M} (had : nb_AD ad b0) (M N : nb_M) (p0 : Int32) (p1 : Int32) (p2 : Int32) (h : f_X6_voice M p0 p1 p2 = some (r, M')) : nb_C l D ad ca b0 yX6_voice wsX6_voice 197 [.ref (ad 0), .int p0, .int p1, .int p2] M N (some (.int r)) M' N := by
  refine nb_of (cc := cX6_voice) (maxL := 5) (ret := (some .int)) (own := RX6) (by decide +kernel) rfl rfl (Nat.le_of_ble_eq_true rfl) ?_
  intro p e s m args below meth c ls X hP hS hl
  have hl : lv_has ls 5 [(0, .ref (ad 0)), (1, .int p0), (2, .int p1), (3, .int p2)] := hl
  obtain ⟨hx, hb, hml, hown, hts, hr, hlk, hK, hZ⟩ := id X
  have w_1 := hts (.fieldLink RX6 12 "NineBreakages" "now" "LNineBreakages$House;") (by decide +kernel)
  have in6 : ∀ w ∈ u_ws RX6 TX6 8, w ∈ wsX6_voice := fun w q => List.mem_cons_of_mem _ (List.mem_append_left _ (List.mem_append_left _ (List.mem_append_right _ q)))
  have w_3 := hts (.fieldLink RX6 36 "NineBreakages" "voices" "LNineBreakages$Voices;") (by decide +kernel)
  have w_4 := hts (.fieldLink RX6 99 "NineBreakages$House" "kind" "[I") (by decide +kernel)
  have in0 : ∀ w ∈ u_ws RX0 TX0 16, w ∈ wsX6_voice := fun w q => List.mem_cons_of_mem _ (List.mem_append_left _ (List.mem_append_right _ q))
  have w_6 := hts (.fieldLink RX6 102 "NineBreakages$House" "number" "[I") (by decide +kernel)
  have w_7 := hts (.fieldLink RX6 235 "NineBreakages$Voices" "parted" "Z") (by decide +kernel)
  have in5 : ∀ w ∈ u_ws RX5 TX5 6, w ∈ wsX6_voice := fun w q => List.mem_cons_of_mem _ (List.mem_append_right _ q)
  unfold f_X6_voice at h
  refine lv_aload_n hx hb dX6_voice_0 rfl (lv_at hl 0 rfl) ?_
  refine va_get (v := .ref (ad 1)) (C := RX6) (T := TX6) (N := 8) hx hb hts in6 hown hK.1 hP 0 nb_a0 rfl 0 (by decide) w_1 (fun _ h9 => h9) rfl dX6_voice_1 ?_
  refine lv_iload_n hx hb dX6_voice_4 rfl (lv_at hl 1 rfl) ?_
  refine nb_callV (n := 1) (As := [.int p0]) (rest := []) hx hb hml hown hts hK hZ hP hS (k_X0_isPiece had M N p0) gX6_voice_X0_isPiece rfl (by decide +kernel) (nb_rm (Nat.le_of_ble_eq_true rfl) (Nat.le_of_ble_eq_true rfl)) nb_a1 rfl rfl rfl hl.1 rfl (Nat.le_of_ble_eq_true rfl) dX6_voice_5 (fun H locs hP hS => ?_)
  refine W.eq (g2 := F0 m 8 ls [.int (f_X0_isPiece M p0)]) rfl ?_
  refine lv_if_eq (tgt := 19) hx hb dX6_voice_8 (by decide) (fun c_2 => ?_) (fun c_2 => ?_)
  · have h := nb_t c_2 h
    refine lv_aload_n hx hb dX6_voice_19 rfl (lv_at hl 0 rfl) ?_
    refine lv_iconst (v := (1 : Int32)) hx hb dX6_voice_20 (by decide) ?_
    obtain ⟨r_3, M_3, e_3, h⟩ := nb_pE h
    refine nb_callV (n := 1) (As := [.int (1 : Int32)]) (rest := []) hx hb hml hown hts hK hZ hP hS (k_X6_fail had M N (1 : Int32) e_3) gX6_voice_X6_fail rfl (by decide +kernel) (nb_rm (Nat.le_of_ble_eq_true rfl) (Nat.le_of_ble_eq_true rfl)) nb_a0 rfl rfl rfl hl.1 rfl (Nat.le_of_ble_eq_true rfl) dX6_voice_21 (fun H locs hP hS => ?_)
    refine W.eq (g2 := F0 m 24 ls [.int r_3]) rfl ?_
    obtain ⟨rfl, rfl⟩ := nb_e2 h
    exact nb_iret hx hb hr hlk hP hS dX6_voice_24
  · have h := nb_f c_2 h
    refine lv_iload_n hx hb dX6_voice_11 rfl (lv_at hl 2 rfl) ?_
    refine lv_iconst (v := (3 : Int32)) hx hb dX6_voice_12 (by decide) ?_
    refine nb_callS (n := 2) (As := [.int p1, .int (3 : Int32)]) (rest := []) hx hb hml hown hts hK hZ hP hS (k_X6_within had M N p1 (3 : Int32)) gX6_voice_X6_within rfl (by decide +kernel) (nb_rm (Nat.le_of_ble_eq_true rfl) (Nat.le_of_ble_eq_true rfl)) rfl hl.1 rfl (Nat.le_of_ble_eq_true rfl) dX6_voice_13 (fun H locs hP hS => ?_)
    refine W.eq (g2 := F0 m 16 ls [.int (f_X6_within p1 (3 : Int32))]) rfl ?_
    refine lv_if_ne (tgt := 25) hx hb dX6_voice_16 (by decide) (fun c_5 => ?_) (fun c_5 => ?_)
    · have h := nb_f c_5 h
      refine lv_aload_n hx hb dX6_voice_25 rfl (lv_at hl 0 rfl) ?_
      refine va_get (v := .ref (ad 40)) (C := RX6) (T := TX6) (N := 8) hx hb hts in6 hown hK.1 hP 0 nb_a0 rfl 4 (by decide) w_3 (fun _ h9 => h9) rfl dX6_voice_26 ?_
      refine lv_aload_n hx hb dX6_voice_29 rfl (lv_at hl 0 rfl) ?_
      refine va_get (v := .ref (ad 1)) (C := RX6) (T := TX6) (N := 8) hx hb hts in6 hown hK.1 hP 0 nb_a0 rfl 0 (by decide) w_1 (fun _ h9 => h9) rfl dX6_voice_30 ?_
      refine va_get (v := .ref (ad 5)) (C := RX0) (T := TX0) (N := 16) hx hb hts in0 hown hK.1 hP 1 nb_a1 rfl 7 (by decide) w_4 (fun _ h9 => h9) rfl dX6_voice_33 ?_
      refine lv_iload_n hx hb dX6_voice_36 rfl (lv_at hl 1 rfl) ?_
      obtain ⟨c_6, h⟩ := nb_c h
      refine va_iald hx hb hK.1 hP 5 0 nb_a5 rfl c_6 dX6_voice_37 ?_
      refine lv_iload_n hx hb dX6_voice_38 rfl (lv_at hl 1 rfl) ?_
      refine lv_aload_n hx hb dX6_voice_39 rfl (lv_at hl 0 rfl) ?_
      refine va_get (v := .ref (ad 1)) (C := RX6) (T := TX6) (N := 8) hx hb hts in6 hown hK.1 hP 0 nb_a0 rfl 0 (by decide) w_1 (fun _ h9 => h9) rfl dX6_voice_40 ?_
      refine va_get (v := .ref (ad 6)) (C := RX0) (T := TX0) (N := 16) hx hb hts in0 hown hK.1 hP 1 nb_a1 rfl 8 (by decide) w_6 (fun _ h9 => h9) rfl dX6_voice_43 ?_
      refine lv_iload_n hx hb dX6_voice_46 rfl (lv_at hl 1 rfl) ?_
      refine va_iald hx hb hK.1 hP 6 0 nb_a6 rfl c_6 dX6_voice_47 ?_
      obtain ⟨M_7, e_7, h⟩ := nb_nE h
      refine nb_callV (n := 3) (As := [.int (M.1 5 p0.toNatClampNeg), .int p0, .int (M.1 6 p0.toNatClampNeg)]) (rest := []) hx hb hml hown hts hK hZ hP hS (k_X5_turnTo had M N (M.1 5 p0.toNatClampNeg) p0 (M.1 6 p0.toNatClampNeg) e_7) gX6_voice_X5_turnTo rfl (by decide +kernel) (nb_rm (Nat.le_of_ble_eq_true rfl) (Nat.le_of_ble_eq_true rfl)) nb_a40 rfl rfl rfl hl.1 rfl (Nat.le_of_ble_eq_true rfl) dX6_voice_48 (fun H locs hP hS => ?_)
      refine W.eq (g2 := F0 m 51 ls []) rfl ?_
      refine lv_aload_n hx hb dX6_voice_51 rfl (lv_at hl 0 rfl) ?_
      refine va_get (v := .ref (ad 40)) (C := RX6) (T := TX6) (N := 8) hx hb hts in6 hown hK.1 hP 0 nb_a0 rfl 4 (by decide) w_3 (fun _ h9 => h9) rfl dX6_voice_52 ?_
      refine lv_iload_n hx hb dX6_voice_55 rfl (lv_at hl 2 rfl) ?_
      refine lv_iload_n hx hb dX6_voice_56 rfl (lv_at hl 3 rfl) ?_
      obtain ⟨r_8, M_8, e_8, h⟩ := nb_pE h
      refine nb_callV (n := 2) (As := [.int p1, .int p2]) (rest := []) hx hb hml hown hts hK hZ hP hS (k_X5_say had M_7 N p1 p2 e_8) gX6_voice_X5_say rfl (by decide +kernel) (nb_rm (Nat.le_of_ble_eq_true rfl) (Nat.le_of_ble_eq_true rfl)) nb_a40 rfl rfl rfl hl.1 rfl (Nat.le_of_ble_eq_true rfl) dX6_voice_57 (fun H locs hP hS => ?_)
      refine W.eq (g2 := F0 m 60 ls [.int r_8]) rfl ?_
      refine lv_istore (lv' := [(4, .int r_8), (0, .ref (ad 0)), (1, .int p0), (2, .int p1), (3, .int p2)]) hx hb dX6_voice_60 hl (by decide) rfl (fun ls hl => ?_)
      refine lv_aload_n hx hb dX6_voice_62 rfl (lv_at hl 1 rfl) ?_
      refine va_get (v := .ref (ad 40)) (C := RX6) (T := TX6) (N := 8) hx hb hts in6 hown hK.1 hP 0 nb_a0 rfl 4 (by decide) w_3 (fun _ h9 => h9) rfl dX6_voice_63 ?_
      refine va_get (v := .int (M_8.1 40 2)) (C := RX5) (T := TX5) (N := 6) hx hb hts in5 hown hK.1 hP 40 nb_a40 rfl 2 (by decide) w_7 (fun _ h9 => h9) rfl dX6_voice_66 ?_
      refine lv_if_eq (tgt := 81) hx hb dX6_voice_69 (by decide) (fun c_9 => ?_) (fun c_9 => ?_)
      · have h := nb_t c_9 h
        refine lv_iload hx hb dX6_voice_81 (lv_at hl 0 rfl) ?_
        obtain ⟨rfl, rfl⟩ := nb_e2 h
        exact nb_iret hx hb hr hlk hP hS dX6_voice_83
      · have h := nb_f c_9 h
        refine lv_aload_n hx hb dX6_voice_72 rfl (lv_at hl 1 rfl) ?_
        refine lv_bipush (v := (6 : Int32)) hx hb dX6_voice_73 (by decide) ?_
        obtain ⟨r_10, M_10, e_10, h⟩ := nb_pE h
        refine nb_callV (n := 1) (As := [.int (6 : Int32)]) (rest := []) hx hb hml hown hts hK hZ hP hS (k_X6_fail had M_8 N (6 : Int32) e_10) gX6_voice_X6_fail rfl (by decide +kernel) (nb_rm (Nat.le_of_ble_eq_true rfl) (Nat.le_of_ble_eq_true rfl)) nb_a0 rfl rfl rfl hl.1 rfl (Nat.le_of_ble_eq_true rfl) dX6_voice_75 (fun H locs hP hS => ?_)
        refine W.eq (g2 := F0 m 78 ls [.int r_10]) rfl ?_
        refine lv_goto (tgt := 83) hx hb dX6_voice_78 (by decide) ?_
        obtain ⟨rfl, rfl⟩ := nb_e2 h
        exact nb_iret hx hb hr hlk hP hS dX6_voice_83
    · have h := nb_t c_5 h
      refine lv_aload_n hx hb dX6_voice_19 rfl (lv_at hl 0 rfl) ?_
      refine lv_iconst (v := (1 : Int32)) hx hb dX6_voice_20 (by decide) ?_
      obtain ⟨r_11, M_11, e_11, h⟩ := nb_pE h
      refine nb_callV (n := 1) (As := [.int (1 : Int32)]) (rest := []) hx hb hml hown hts hK hZ hP hS (k_X6_fail had M N (1 : Int32) e_11) gX6_voice_X6_fail rfl (by decide +kernel) (nb_rm (Nat.le_of_ble_eq_true rfl) (Nat.le_of_ble_eq_true rfl)) nb_a0 rfl rfl rfl hl.1 rfl (Nat.le_of_ble_eq_true rfl) dX6_voice_21 (fun H locs hP hS => ?_)
      refine W.eq (g2 := F0 m 24 ls [.int r_11]) rfl ?_
      obtain ⟨rfl, rfl⟩ := nb_e2 h
      exact nb_iret hx hb hr hlk hP hS dX6_voice_24
set_option maxHeartbeats 4000000 in
set_option maxRecDepth 100000 in
theorem k_X6_body {r : Int32} {M' : nb_M} (had : nb_AD ad b0) (M N : nb_M) (p0 : Int32) (h : f_X6_body M p0 = some (r, M')) : nb_C l D ad ca b0 yX6_body wsX6_body 1 [.ref (ad 0), .int p0] M N (some (.int r)) M' N := by
  refine nb_of (cc := cX6_body) (maxL := 2) (ret := (some .int)) (own := RX6) (by decide +kernel) rfl rfl (Nat.le_of_ble_eq_true rfl) ?_
  intro p e s m args below meth c ls X hP hS hl
  have hl : lv_has ls 2 [(0, .ref (ad 0)), (1, .int p0)] := hl
  obtain ⟨hx, hb, hml, hown, hts, hr, hlk, hK, hZ⟩ := id X
  have w_1 := hts (.fieldLink RX6 36 "NineBreakages" "voices" "LNineBreakages$Voices;") (by decide +kernel)
  have in6 : ∀ w ∈ u_ws RX6 TX6 8, w ∈ wsX6_body := fun w q => List.mem_cons_of_mem _ (List.mem_append_left _ (List.mem_append_right _ q))
  have w_3 := hts (.fieldLink RX6 239 "NineBreakages$Voices" "traced" "I") (by decide +kernel)
  have in5 : ∀ w ∈ u_ws RX5 TX5 6, w ∈ wsX6_body := fun w q => List.mem_cons_of_mem _ (List.mem_append_right _ q)
  have w_5 := hts (.fieldLink RX6 242 "NineBreakages$Voices" "trace" "[I") (by decide +kernel)
  unfold f_X6_body at h
  refine lv_iload_n hx hb dX6_body_0 rfl (lv_at hl 1 rfl) ?_
  refine lv_if_lt (tgt := 15) hx hb dX6_body_1 (by decide) (fun c_1 => ?_) (fun c_1 => ?_)
  · have h := nb_t c_1 h
    refine lv_aload_n hx hb dX6_body_15 rfl (lv_at hl 0 rfl) ?_
    refine lv_iconst (v := (2 : Int32)) hx hb dX6_body_16 (by decide) ?_
    obtain ⟨r_2, M_2, e_2, h⟩ := nb_pE h
    refine nb_callV (n := 1) (As := [.int (2 : Int32)]) (rest := []) hx hb hml hown hts hK hZ hP hS (k_X6_fail had M N (2 : Int32) e_2) gX6_body_X6_fail rfl (by decide +kernel) (nb_rm (Nat.le_of_ble_eq_true rfl) (Nat.le_of_ble_eq_true rfl)) nb_a0 rfl rfl rfl hl.1 rfl (Nat.le_of_ble_eq_true rfl) dX6_body_17 (fun H locs hP hS => ?_)
    refine W.eq (g2 := F0 m 20 ls [.int r_2]) rfl ?_
    obtain ⟨rfl, rfl⟩ := nb_e2 h
    exact nb_iret hx hb hr hlk hP hS dX6_body_20
  · have h := nb_f c_1 h
    refine lv_iload_n hx hb dX6_body_4 rfl (lv_at hl 1 rfl) ?_
    refine lv_aload_n hx hb dX6_body_5 rfl (lv_at hl 0 rfl) ?_
    refine va_get (v := .ref (ad 40)) (C := RX6) (T := TX6) (N := 8) hx hb hts in6 hown hK.1 hP 0 nb_a0 rfl 4 (by decide) w_1 (fun _ h9 => h9) rfl dX6_body_6 ?_
    refine va_get (v := .int (M.1 40 1)) (C := RX5) (T := TX5) (N := 6) hx hb hts in5 hown hK.1 hP 40 nb_a40 rfl 1 (by decide) w_3 (fun _ h9 => h9) rfl dX6_body_9 ?_
    refine lv_icmp_lt (tgt := 21) hx hb dX6_body_12 (by decide) (fun c_3 => ?_) (fun c_3 => ?_)
    · have h := nb_t c_3 h
      refine lv_aload_n hx hb dX6_body_21 rfl (lv_at hl 0 rfl) ?_
      refine va_get (v := .ref (ad 40)) (C := RX6) (T := TX6) (N := 8) hx hb hts in6 hown hK.1 hP 0 nb_a0 rfl 4 (by decide) w_1 (fun _ h9 => h9) rfl dX6_body_22 ?_
      refine va_get (v := .ref (ad 41)) (C := RX5) (T := TX5) (N := 6) hx hb hts in5 hown hK.1 hP 40 nb_a40 rfl 0 (by decide) w_5 (fun _ h9 => h9) rfl dX6_body_25 ?_
      refine lv_iload_n hx hb dX6_body_28 rfl (lv_at hl 1 rfl) ?_
      obtain ⟨c_4, h⟩ := nb_c h
      refine va_iald hx hb hK.1 hP 41 0 nb_a41 rfl c_4 dX6_body_29 ?_
      obtain ⟨rfl, rfl⟩ := nb_e2 h
      exact nb_iret hx hb hr hlk hP hS dX6_body_30
    · have h := nb_f c_3 h
      refine lv_aload_n hx hb dX6_body_15 rfl (lv_at hl 0 rfl) ?_
      refine lv_iconst (v := (2 : Int32)) hx hb dX6_body_16 (by decide) ?_
      obtain ⟨r_5, M_5, e_5, h⟩ := nb_pE h
      refine nb_callV (n := 1) (As := [.int (2 : Int32)]) (rest := []) hx hb hml hown hts hK hZ hP hS (k_X6_fail had M N (2 : Int32) e_5) gX6_body_X6_fail rfl (by decide +kernel) (nb_rm (Nat.le_of_ble_eq_true rfl) (Nat.le_of_ble_eq_true rfl)) nb_a0 rfl rfl rfl hl.1 rfl (Nat.le_of_ble_eq_true rfl) dX6_body_17 (fun H locs hP hS => ?_)
      refine W.eq (g2 := F0 m 20 ls [.int r_5]) rfl ?_
      obtain ⟨rfl, rfl⟩ := nb_e2 h
      exact nb_iret hx hb hr hlk hP hS dX6_body_20
set_option maxHeartbeats 4000000 in
set_option maxRecDepth 100000 in
theorem k_X6_isWidth (had : nb_AD ad b0) (M N : nb_M) (p0 : Int32) : nb_C l D ad ca b0 yX6_isWidth wsX6_isWidth 0 [.int p0] M N (some (.int (f_X6_isWidth p0))) M N := by
  obtain ⟨r, h⟩ : ∃ r, f_X6_isWidth p0 = r := ⟨_, rfl⟩
  rw [h]
  refine nb_of (cc := cX6_isWidth) (maxL := 1) (ret := (some .boolean)) (own := RX6) (by decide +kernel) rfl rfl (Nat.le_of_ble_eq_true rfl) ?_
  intro p e s m args below meth c ls X hP hS hl
  have hl : lv_has ls 1 [(0, .int p0)] := hl
  obtain ⟨hx, hb, hml, hown, hts, hr, hlk, hK, hZ⟩ := id X
  unfold f_X6_isWidth at h
  refine lv_iload_n hx hb dX6_isWidth_0 rfl (lv_at hl 0 rfl) ?_
  refine lv_if_eq (tgt := 22) hx hb dX6_isWidth_1 (by decide) (fun c_1 => ?_) (fun c_1 => ?_)
  · have h := nb_t c_1 h
    refine lv_iconst (v := (1 : Int32)) hx hb dX6_isWidth_22 (by decide) ?_
    refine lv_goto (tgt := 27) hx hb dX6_isWidth_23 (by decide) ?_
    obtain rfl := nb_e3 h
    exact nb_zret (by decide) hx hb hr hlk hP hS dX6_isWidth_27
  · have h := nb_f c_1 h
    refine lv_iload_n hx hb dX6_isWidth_4 rfl (lv_at hl 0 rfl) ?_
    refine lv_bipush (v := (8 : Int32)) hx hb dX6_isWidth_5 (by decide) ?_
    refine lv_icmp_eq (tgt := 22) hx hb dX6_isWidth_7 (by decide) (fun c_2 => ?_) (fun c_2 => ?_)
    · have h := nb_t c_2 h
      refine lv_iconst (v := (1 : Int32)) hx hb dX6_isWidth_22 (by decide) ?_
      refine lv_goto (tgt := 27) hx hb dX6_isWidth_23 (by decide) ?_
      obtain rfl := nb_e3 h
      exact nb_zret (by decide) hx hb hr hlk hP hS dX6_isWidth_27
    · have h := nb_f c_2 h
      refine lv_iload_n hx hb dX6_isWidth_10 rfl (lv_at hl 0 rfl) ?_
      refine lv_bipush (v := (16 : Int32)) hx hb dX6_isWidth_11 (by decide) ?_
      refine lv_icmp_eq (tgt := 22) hx hb dX6_isWidth_13 (by decide) (fun c_3 => ?_) (fun c_3 => ?_)
      · have h := nb_t c_3 h
        refine lv_iconst (v := (1 : Int32)) hx hb dX6_isWidth_22 (by decide) ?_
        refine lv_goto (tgt := 27) hx hb dX6_isWidth_23 (by decide) ?_
        obtain rfl := nb_e3 h
        exact nb_zret (by decide) hx hb hr hlk hP hS dX6_isWidth_27
      · have h := nb_f c_3 h
        refine lv_iload_n hx hb dX6_isWidth_16 rfl (lv_at hl 0 rfl) ?_
        refine lv_bipush (v := (32 : Int32)) hx hb dX6_isWidth_17 (by decide) ?_
        refine lv_icmp_ne (tgt := 26) hx hb dX6_isWidth_19 (by decide) (fun c_4 => ?_) (fun c_4 => ?_)
        · have h := nb_f c_4 h
          refine lv_iconst (v := (0 : Int32)) hx hb dX6_isWidth_26 (by decide) ?_
          obtain rfl := nb_e3 h
          exact nb_zret (by decide) hx hb hr hlk hP hS dX6_isWidth_27
        · have h := nb_t c_4 h
          refine lv_iconst (v := (1 : Int32)) hx hb dX6_isWidth_22 (by decide) ?_
          refine lv_goto (tgt := 27) hx hb dX6_isWidth_23 (by decide) ?_
          obtain rfl := nb_e3 h
          exact nb_zret (by decide) hx hb hr hlk hP hS dX6_isWidth_27
set_option maxHeartbeats 4000000 in
set_option maxRecDepth 100000 in
theorem w_X2_begin_43_12 {N : nb_M} {M' : nb_M} (had : nb_AD ad b0) (X : nb_X p s m args meth c cX2_begin 4 RX2 none wsX2_begin D ca b0) : ∀ (n : Nat) (M : nb_M) (x3 : Int32), f_X2_begin_43_12 n M x3 = some (M') → ∀ (H : Heap) (locs : List Loc), va_P D vwCl (nb_w ad ca M N) H → va_S (fun q => b0 ≤ q) s.heap H locs → ∀ ls : Array Slot, lv_has ls 4 [(0, .ref (ad 43)), (3, .int x3)] → W p l e (nb_R 0) s m args below meth c H locs 0 0 (nb_Q below args s D ad ca b0 none M' N) (F0 m 12 ls []) := by
  obtain ⟨hx, hb, hml, hown, hts, hr, hlk, hK, hZ⟩ := id X
  have w_1 := hts (.fieldLink RX2 9 "NineBreakages$Sheet" "numbers" "[I") (by decide +kernel)
  have in2 : ∀ w ∈ u_ws RX2 TX2 3, w ∈ wsX2_begin := fun w q => List.mem_cons_of_mem _ (List.mem_append_right _ q)
  intro n
  induction n with
  | zero =>
    intro M x3 h
    rw [f_X2_begin_43_12] at h
    cases h
  | succ n ih =>
    intro M x3 h H locs hP hS ls hl
    rw [f_X2_begin_43_12] at h
    refine lv_iload_n hx hb dX2_begin_12 rfl (lv_at hl 1 rfl) ?_
    refine lv_bipush (v := (24 : Int32)) hx hb dX2_begin_13 (by decide) ?_
    refine lv_icmp_ge (tgt := 31) hx hb dX2_begin_15 (by decide) (fun c_3 => ?_) (fun c_3 => ?_)
    · have h := nb_t c_3 h
      obtain rfl := nb_e1 h
      exact nb_vret hx hb hr hlk hP hS dX2_begin_31
    · have h := nb_f c_3 h
      refine lv_aload_n hx hb dX2_begin_18 rfl (lv_at hl 0 rfl) ?_
      refine va_get (v := .ref (ad 44)) (C := RX2) (T := TX2) (N := 3) hx hb hts in2 hown hK.1 hP 43 nb_a43 rfl 0 (by decide) w_1 (fun _ h9 => h9) rfl dX2_begin_19 ?_
      refine lv_iload_n hx hb dX2_begin_22 rfl (lv_at hl 1 rfl) ?_
      refine lv_iconst (v := (0 : Int32)) hx hb dX2_begin_23 (by decide) ?_
      obtain ⟨c_4, h⟩ := nb_c h
      refine nb_iast hx hb had hK hP hS nb_a44 c_4 (nb_t44 _ _) dX2_begin_24 (fun H locs hP hS => ?_)
      obtain ⟨M_5, e_5, h⟩ := nb_nE h
      rw [e_5] at hP
      refine lv_iinc (v := x3 + 1) (lv' := [(3, .int (x3 + 1)), (0, .ref (ad 43))]) hx hb dX2_begin_25 hl (k := 1) rfl (congrArg (HAdd.hAdd x3) (by decide)) (by decide) rfl (fun ls hl => ?_)
      refine lv_goto (tgt := 12) hx hb dX2_begin_28 (by decide) ?_
      exact ih _ _ h _ _ hP hS _ (lv_sub hl [1, 0] rfl)
set_option maxHeartbeats 4000000 in
set_option maxRecDepth 100000 in
theorem k_X2_begin_43 {M' : nb_M} (had : nb_AD ad b0) (M N : nb_M) (p0 : Int32) (p1 : Int32) (h : f_X2_begin_43 M p0 p1 = some (M')) : nb_C l D ad ca b0 yX2_begin wsX2_begin 0 [.ref (ad 43), .int p0, .int p1] M N none M' N := by
  refine nb_of (cc := cX2_begin) (maxL := 4) (ret := none) (own := RX2) (by decide +kernel) rfl rfl (Nat.le_of_ble_eq_true rfl) ?_
  intro p e s m args below meth c ls X hP hS hl
  have hl : lv_has ls 4 [(0, .ref (ad 43)), (1, .int p0), (2, .int p1)] := hl
  obtain ⟨hx, hb, hml, hown, hts, hr, hlk, hK, hZ⟩ := id X
  have w_1 := hts (.fieldLink RX2 15 "NineBreakages$Sheet" "bits" "I") (by decide +kernel)
  have in2 : ∀ w ∈ u_ws RX2 TX2 3, w ∈ wsX2_begin := fun w q => List.mem_cons_of_mem _ (List.mem_append_right _ q)
  have w_3 := hts (.fieldLink RX2 19 "NineBreakages$Sheet" "size" "I") (by decide +kernel)
  unfold f_X2_begin_43 at h
  refine lv_aload_n hx hb dX2_begin_0 rfl (lv_at hl 0 rfl) ?_
  refine lv_iload_n hx hb dX2_begin_1 rfl (lv_at hl 1 rfl) ?_
  refine nb_put (C := RX2) (T := TX2) (NN := 3) hx hb had hts in2 tyX2 tyX2_ok nmX2 hown hK hP hS nb_a43 rfl 1 (by decide) w_1 rfl (ty := .int) (by decide +kernel) rfl rfl (Nat.le_of_ble_eq_true rfl) (nb_p43_1 _) dX2_begin_2 (fun H locs hP hS => ?_)
  obtain ⟨M_1, e_1, h⟩ := nb_nE h
  rw [e_1] at hP
  refine lv_aload_n hx hb dX2_begin_5 rfl (lv_at hl 0 rfl) ?_
  refine lv_iload_n hx hb dX2_begin_6 rfl (lv_at hl 2 rfl) ?_
  refine nb_put (C := RX2) (T := TX2) (NN := 3) hx hb had hts in2 tyX2 tyX2_ok nmX2 hown hK hP hS nb_a43 rfl 2 (by decide) w_3 rfl (ty := .int) (by decide +kernel) rfl rfl (Nat.le_of_ble_eq_true rfl) (nb_p43_2 _) dX2_begin_7 (fun H locs hP hS => ?_)
  obtain ⟨M_2, e_2, h⟩ := nb_nE h
  rw [e_2] at hP
  refine lv_iconst (v := (0 : Int32)) hx hb dX2_begin_10 (by decide) ?_
  refine lv_istore_n (lv' := [(3, .int (0 : Int32)), (0, .ref (ad 43)), (1, .int p0), (2, .int p1)]) hx hb dX2_begin_11 rfl hl (by decide) rfl (fun ls hl => ?_)
  exact w_X2_begin_43_12 had X nb_F _ _ h _ _ hP hS _ (lv_sub hl [1, 0] rfl)
set_option maxHeartbeats 4000000 in
set_option maxRecDepth 100000 in
theorem w_X2_begin_45_12 {N : nb_M} {M' : nb_M} (had : nb_AD ad b0) (X : nb_X p s m args meth c cX2_begin 4 RX2 none wsX2_begin D ca b0) : ∀ (n : Nat) (M : nb_M) (x3 : Int32), f_X2_begin_45_12 n M x3 = some (M') → ∀ (H : Heap) (locs : List Loc), va_P D vwCl (nb_w ad ca M N) H → va_S (fun q => b0 ≤ q) s.heap H locs → ∀ ls : Array Slot, lv_has ls 4 [(0, .ref (ad 45)), (3, .int x3)] → W p l e (nb_R 0) s m args below meth c H locs 0 0 (nb_Q below args s D ad ca b0 none M' N) (F0 m 12 ls []) := by
  obtain ⟨hx, hb, hml, hown, hts, hr, hlk, hK, hZ⟩ := id X
  have w_1 := hts (.fieldLink RX2 9 "NineBreakages$Sheet" "numbers" "[I") (by decide +kernel)
  have in2 : ∀ w ∈ u_ws RX2 TX2 3, w ∈ wsX2_begin := fun w q => List.mem_cons_of_mem _ (List.mem_append_right _ q)
  intro n
  induction n with
  | zero =>
    intro M x3 h
    rw [f_X2_begin_45_12] at h
    cases h
  | succ n ih =>
    intro M x3 h H locs hP hS ls hl
    rw [f_X2_begin_45_12] at h
    refine lv_iload_n hx hb dX2_begin_12 rfl (lv_at hl 1 rfl) ?_
    refine lv_bipush (v := (24 : Int32)) hx hb dX2_begin_13 (by decide) ?_
    refine lv_icmp_ge (tgt := 31) hx hb dX2_begin_15 (by decide) (fun c_3 => ?_) (fun c_3 => ?_)
    · have h := nb_t c_3 h
      obtain rfl := nb_e1 h
      exact nb_vret hx hb hr hlk hP hS dX2_begin_31
    · have h := nb_f c_3 h
      refine lv_aload_n hx hb dX2_begin_18 rfl (lv_at hl 0 rfl) ?_
      refine va_get (v := .ref (ad 46)) (C := RX2) (T := TX2) (N := 3) hx hb hts in2 hown hK.1 hP 45 nb_a45 rfl 0 (by decide) w_1 (fun _ h9 => h9) rfl dX2_begin_19 ?_
      refine lv_iload_n hx hb dX2_begin_22 rfl (lv_at hl 1 rfl) ?_
      refine lv_iconst (v := (0 : Int32)) hx hb dX2_begin_23 (by decide) ?_
      obtain ⟨c_4, h⟩ := nb_c h
      refine nb_iast hx hb had hK hP hS nb_a46 c_4 (nb_t46 _ _) dX2_begin_24 (fun H locs hP hS => ?_)
      obtain ⟨M_5, e_5, h⟩ := nb_nE h
      rw [e_5] at hP
      refine lv_iinc (v := x3 + 1) (lv' := [(3, .int (x3 + 1)), (0, .ref (ad 45))]) hx hb dX2_begin_25 hl (k := 1) rfl (congrArg (HAdd.hAdd x3) (by decide)) (by decide) rfl (fun ls hl => ?_)
      refine lv_goto (tgt := 12) hx hb dX2_begin_28 (by decide) ?_
      exact ih _ _ h _ _ hP hS _ (lv_sub hl [1, 0] rfl)
set_option maxHeartbeats 4000000 in
set_option maxRecDepth 100000 in
theorem k_X2_begin_45 {M' : nb_M} (had : nb_AD ad b0) (M N : nb_M) (p0 : Int32) (p1 : Int32) (h : f_X2_begin_45 M p0 p1 = some (M')) : nb_C l D ad ca b0 yX2_begin wsX2_begin 0 [.ref (ad 45), .int p0, .int p1] M N none M' N := by
  refine nb_of (cc := cX2_begin) (maxL := 4) (ret := none) (own := RX2) (by decide +kernel) rfl rfl (Nat.le_of_ble_eq_true rfl) ?_
  intro p e s m args below meth c ls X hP hS hl
  have hl : lv_has ls 4 [(0, .ref (ad 45)), (1, .int p0), (2, .int p1)] := hl
  obtain ⟨hx, hb, hml, hown, hts, hr, hlk, hK, hZ⟩ := id X
  have w_1 := hts (.fieldLink RX2 15 "NineBreakages$Sheet" "bits" "I") (by decide +kernel)
  have in2 : ∀ w ∈ u_ws RX2 TX2 3, w ∈ wsX2_begin := fun w q => List.mem_cons_of_mem _ (List.mem_append_right _ q)
  have w_3 := hts (.fieldLink RX2 19 "NineBreakages$Sheet" "size" "I") (by decide +kernel)
  unfold f_X2_begin_45 at h
  refine lv_aload_n hx hb dX2_begin_0 rfl (lv_at hl 0 rfl) ?_
  refine lv_iload_n hx hb dX2_begin_1 rfl (lv_at hl 1 rfl) ?_
  refine nb_put (C := RX2) (T := TX2) (NN := 3) hx hb had hts in2 tyX2 tyX2_ok nmX2 hown hK hP hS nb_a45 rfl 1 (by decide) w_1 rfl (ty := .int) (by decide +kernel) rfl rfl (Nat.le_of_ble_eq_true rfl) (nb_p45_1 _) dX2_begin_2 (fun H locs hP hS => ?_)
  obtain ⟨M_1, e_1, h⟩ := nb_nE h
  rw [e_1] at hP
  refine lv_aload_n hx hb dX2_begin_5 rfl (lv_at hl 0 rfl) ?_
  refine lv_iload_n hx hb dX2_begin_6 rfl (lv_at hl 2 rfl) ?_
  refine nb_put (C := RX2) (T := TX2) (NN := 3) hx hb had hts in2 tyX2 tyX2_ok nmX2 hown hK hP hS nb_a45 rfl 2 (by decide) w_3 rfl (ty := .int) (by decide +kernel) rfl rfl (Nat.le_of_ble_eq_true rfl) (nb_p45_2 _) dX2_begin_7 (fun H locs hP hS => ?_)
  obtain ⟨M_2, e_2, h⟩ := nb_nE h
  rw [e_2] at hP
  refine lv_iconst (v := (0 : Int32)) hx hb dX2_begin_10 (by decide) ?_
  refine lv_istore_n (lv' := [(3, .int (0 : Int32)), (0, .ref (ad 45)), (1, .int p0), (2, .int p1)]) hx hb dX2_begin_11 rfl hl (by decide) rfl (fun ls hl => ?_)
  exact w_X2_begin_45_12 had X nb_F _ _ h _ _ hP hS _ (lv_sub hl [1, 0] rfl)
set_option maxHeartbeats 4000000 in
set_option maxRecDepth 100000 in
theorem w_X2_begin_47_12 {N : nb_M} {M' : nb_M} (had : nb_AD ad b0) (X : nb_X p s m args meth c cX2_begin 4 RX2 none wsX2_begin D ca b0) : ∀ (n : Nat) (M : nb_M) (x3 : Int32), f_X2_begin_47_12 n M x3 = some (M') → ∀ (H : Heap) (locs : List Loc), va_P D vwCl (nb_w ad ca M N) H → va_S (fun q => b0 ≤ q) s.heap H locs → ∀ ls : Array Slot, lv_has ls 4 [(0, .ref (ad 47)), (3, .int x3)] → W p l e (nb_R 0) s m args below meth c H locs 0 0 (nb_Q below args s D ad ca b0 none M' N) (F0 m 12 ls []) := by
  obtain ⟨hx, hb, hml, hown, hts, hr, hlk, hK, hZ⟩ := id X
  have w_1 := hts (.fieldLink RX2 9 "NineBreakages$Sheet" "numbers" "[I") (by decide +kernel)
  have in2 : ∀ w ∈ u_ws RX2 TX2 3, w ∈ wsX2_begin := fun w q => List.mem_cons_of_mem _ (List.mem_append_right _ q)
  intro n
  induction n with
  | zero =>
    intro M x3 h
    rw [f_X2_begin_47_12] at h
    cases h
  | succ n ih =>
    intro M x3 h H locs hP hS ls hl
    rw [f_X2_begin_47_12] at h
    refine lv_iload_n hx hb dX2_begin_12 rfl (lv_at hl 1 rfl) ?_
    refine lv_bipush (v := (24 : Int32)) hx hb dX2_begin_13 (by decide) ?_
    refine lv_icmp_ge (tgt := 31) hx hb dX2_begin_15 (by decide) (fun c_3 => ?_) (fun c_3 => ?_)
    · have h := nb_t c_3 h
      obtain rfl := nb_e1 h
      exact nb_vret hx hb hr hlk hP hS dX2_begin_31
    · have h := nb_f c_3 h
      refine lv_aload_n hx hb dX2_begin_18 rfl (lv_at hl 0 rfl) ?_
      refine va_get (v := .ref (ad 48)) (C := RX2) (T := TX2) (N := 3) hx hb hts in2 hown hK.1 hP 47 nb_a47 rfl 0 (by decide) w_1 (fun _ h9 => h9) rfl dX2_begin_19 ?_
      refine lv_iload_n hx hb dX2_begin_22 rfl (lv_at hl 1 rfl) ?_
      refine lv_iconst (v := (0 : Int32)) hx hb dX2_begin_23 (by decide) ?_
      obtain ⟨c_4, h⟩ := nb_c h
      refine nb_iast hx hb had hK hP hS nb_a48 c_4 (nb_t48 _ _) dX2_begin_24 (fun H locs hP hS => ?_)
      obtain ⟨M_5, e_5, h⟩ := nb_nE h
      rw [e_5] at hP
      refine lv_iinc (v := x3 + 1) (lv' := [(3, .int (x3 + 1)), (0, .ref (ad 47))]) hx hb dX2_begin_25 hl (k := 1) rfl (congrArg (HAdd.hAdd x3) (by decide)) (by decide) rfl (fun ls hl => ?_)
      refine lv_goto (tgt := 12) hx hb dX2_begin_28 (by decide) ?_
      exact ih _ _ h _ _ hP hS _ (lv_sub hl [1, 0] rfl)
set_option maxHeartbeats 4000000 in
set_option maxRecDepth 100000 in
theorem k_X2_begin_47 {M' : nb_M} (had : nb_AD ad b0) (M N : nb_M) (p0 : Int32) (p1 : Int32) (h : f_X2_begin_47 M p0 p1 = some (M')) : nb_C l D ad ca b0 yX2_begin wsX2_begin 0 [.ref (ad 47), .int p0, .int p1] M N none M' N := by
  refine nb_of (cc := cX2_begin) (maxL := 4) (ret := none) (own := RX2) (by decide +kernel) rfl rfl (Nat.le_of_ble_eq_true rfl) ?_
  intro p e s m args below meth c ls X hP hS hl
  have hl : lv_has ls 4 [(0, .ref (ad 47)), (1, .int p0), (2, .int p1)] := hl
  obtain ⟨hx, hb, hml, hown, hts, hr, hlk, hK, hZ⟩ := id X
  have w_1 := hts (.fieldLink RX2 15 "NineBreakages$Sheet" "bits" "I") (by decide +kernel)
  have in2 : ∀ w ∈ u_ws RX2 TX2 3, w ∈ wsX2_begin := fun w q => List.mem_cons_of_mem _ (List.mem_append_right _ q)
  have w_3 := hts (.fieldLink RX2 19 "NineBreakages$Sheet" "size" "I") (by decide +kernel)
  unfold f_X2_begin_47 at h
  refine lv_aload_n hx hb dX2_begin_0 rfl (lv_at hl 0 rfl) ?_
  refine lv_iload_n hx hb dX2_begin_1 rfl (lv_at hl 1 rfl) ?_
  refine nb_put (C := RX2) (T := TX2) (NN := 3) hx hb had hts in2 tyX2 tyX2_ok nmX2 hown hK hP hS nb_a47 rfl 1 (by decide) w_1 rfl (ty := .int) (by decide +kernel) rfl rfl (Nat.le_of_ble_eq_true rfl) (nb_p47_1 _) dX2_begin_2 (fun H locs hP hS => ?_)
  obtain ⟨M_1, e_1, h⟩ := nb_nE h
  rw [e_1] at hP
  refine lv_aload_n hx hb dX2_begin_5 rfl (lv_at hl 0 rfl) ?_
  refine lv_iload_n hx hb dX2_begin_6 rfl (lv_at hl 2 rfl) ?_
  refine nb_put (C := RX2) (T := TX2) (NN := 3) hx hb had hts in2 tyX2 tyX2_ok nmX2 hown hK hP hS nb_a47 rfl 2 (by decide) w_3 rfl (ty := .int) (by decide +kernel) rfl rfl (Nat.le_of_ble_eq_true rfl) (nb_p47_2 _) dX2_begin_7 (fun H locs hP hS => ?_)
  obtain ⟨M_2, e_2, h⟩ := nb_nE h
  rw [e_2] at hP
  refine lv_iconst (v := (0 : Int32)) hx hb dX2_begin_10 (by decide) ?_
  refine lv_istore_n (lv' := [(3, .int (0 : Int32)), (0, .ref (ad 47)), (1, .int p0), (2, .int p1)]) hx hb dX2_begin_11 rfl hl (by decide) rfl (fun ls hl => ?_)
  exact w_X2_begin_47_12 had X nb_F _ _ h _ _ hP hS _ (lv_sub hl [1, 0] rfl)
set_option maxHeartbeats 4000000 in
set_option maxRecDepth 100000 in
theorem w_X2_begin_49_12 {N : nb_M} {M' : nb_M} (had : nb_AD ad b0) (X : nb_X p s m args meth c cX2_begin 4 RX2 none wsX2_begin D ca b0) : ∀ (n : Nat) (M : nb_M) (x3 : Int32), f_X2_begin_49_12 n M x3 = some (M') → ∀ (H : Heap) (locs : List Loc), va_P D vwCl (nb_w ad ca M N) H → va_S (fun q => b0 ≤ q) s.heap H locs → ∀ ls : Array Slot, lv_has ls 4 [(0, .ref (ad 49)), (3, .int x3)] → W p l e (nb_R 0) s m args below meth c H locs 0 0 (nb_Q below args s D ad ca b0 none M' N) (F0 m 12 ls []) := by
  obtain ⟨hx, hb, hml, hown, hts, hr, hlk, hK, hZ⟩ := id X
  have w_1 := hts (.fieldLink RX2 9 "NineBreakages$Sheet" "numbers" "[I") (by decide +kernel)
  have in2 : ∀ w ∈ u_ws RX2 TX2 3, w ∈ wsX2_begin := fun w q => List.mem_cons_of_mem _ (List.mem_append_right _ q)
  intro n
  induction n with
  | zero =>
    intro M x3 h
    rw [f_X2_begin_49_12] at h
    cases h
  | succ n ih =>
    intro M x3 h H locs hP hS ls hl
    rw [f_X2_begin_49_12] at h
    refine lv_iload_n hx hb dX2_begin_12 rfl (lv_at hl 1 rfl) ?_
    refine lv_bipush (v := (24 : Int32)) hx hb dX2_begin_13 (by decide) ?_
    refine lv_icmp_ge (tgt := 31) hx hb dX2_begin_15 (by decide) (fun c_3 => ?_) (fun c_3 => ?_)
    · have h := nb_t c_3 h
      obtain rfl := nb_e1 h
      exact nb_vret hx hb hr hlk hP hS dX2_begin_31
    · have h := nb_f c_3 h
      refine lv_aload_n hx hb dX2_begin_18 rfl (lv_at hl 0 rfl) ?_
      refine va_get (v := .ref (ad 50)) (C := RX2) (T := TX2) (N := 3) hx hb hts in2 hown hK.1 hP 49 nb_a49 rfl 0 (by decide) w_1 (fun _ h9 => h9) rfl dX2_begin_19 ?_
      refine lv_iload_n hx hb dX2_begin_22 rfl (lv_at hl 1 rfl) ?_
      refine lv_iconst (v := (0 : Int32)) hx hb dX2_begin_23 (by decide) ?_
      obtain ⟨c_4, h⟩ := nb_c h
      refine nb_iast hx hb had hK hP hS nb_a50 c_4 (nb_t50 _ _) dX2_begin_24 (fun H locs hP hS => ?_)
      obtain ⟨M_5, e_5, h⟩ := nb_nE h
      rw [e_5] at hP
      refine lv_iinc (v := x3 + 1) (lv' := [(3, .int (x3 + 1)), (0, .ref (ad 49))]) hx hb dX2_begin_25 hl (k := 1) rfl (congrArg (HAdd.hAdd x3) (by decide)) (by decide) rfl (fun ls hl => ?_)
      refine lv_goto (tgt := 12) hx hb dX2_begin_28 (by decide) ?_
      exact ih _ _ h _ _ hP hS _ (lv_sub hl [1, 0] rfl)
set_option maxHeartbeats 4000000 in
set_option maxRecDepth 100000 in
theorem k_X2_begin_49 {M' : nb_M} (had : nb_AD ad b0) (M N : nb_M) (p0 : Int32) (p1 : Int32) (h : f_X2_begin_49 M p0 p1 = some (M')) : nb_C l D ad ca b0 yX2_begin wsX2_begin 0 [.ref (ad 49), .int p0, .int p1] M N none M' N := by
  refine nb_of (cc := cX2_begin) (maxL := 4) (ret := none) (own := RX2) (by decide +kernel) rfl rfl (Nat.le_of_ble_eq_true rfl) ?_
  intro p e s m args below meth c ls X hP hS hl
  have hl : lv_has ls 4 [(0, .ref (ad 49)), (1, .int p0), (2, .int p1)] := hl
  obtain ⟨hx, hb, hml, hown, hts, hr, hlk, hK, hZ⟩ := id X
  have w_1 := hts (.fieldLink RX2 15 "NineBreakages$Sheet" "bits" "I") (by decide +kernel)
  have in2 : ∀ w ∈ u_ws RX2 TX2 3, w ∈ wsX2_begin := fun w q => List.mem_cons_of_mem _ (List.mem_append_right _ q)
  have w_3 := hts (.fieldLink RX2 19 "NineBreakages$Sheet" "size" "I") (by decide +kernel)
  unfold f_X2_begin_49 at h
  refine lv_aload_n hx hb dX2_begin_0 rfl (lv_at hl 0 rfl) ?_
  refine lv_iload_n hx hb dX2_begin_1 rfl (lv_at hl 1 rfl) ?_
  refine nb_put (C := RX2) (T := TX2) (NN := 3) hx hb had hts in2 tyX2 tyX2_ok nmX2 hown hK hP hS nb_a49 rfl 1 (by decide) w_1 rfl (ty := .int) (by decide +kernel) rfl rfl (Nat.le_of_ble_eq_true rfl) (nb_p49_1 _) dX2_begin_2 (fun H locs hP hS => ?_)
  obtain ⟨M_1, e_1, h⟩ := nb_nE h
  rw [e_1] at hP
  refine lv_aload_n hx hb dX2_begin_5 rfl (lv_at hl 0 rfl) ?_
  refine lv_iload_n hx hb dX2_begin_6 rfl (lv_at hl 2 rfl) ?_
  refine nb_put (C := RX2) (T := TX2) (NN := 3) hx hb had hts in2 tyX2 tyX2_ok nmX2 hown hK hP hS nb_a49 rfl 2 (by decide) w_3 rfl (ty := .int) (by decide +kernel) rfl rfl (Nat.le_of_ble_eq_true rfl) (nb_p49_2 _) dX2_begin_7 (fun H locs hP hS => ?_)
  obtain ⟨M_2, e_2, h⟩ := nb_nE h
  rw [e_2] at hP
  refine lv_iconst (v := (0 : Int32)) hx hb dX2_begin_10 (by decide) ?_
  refine lv_istore_n (lv' := [(3, .int (0 : Int32)), (0, .ref (ad 49)), (1, .int p0), (2, .int p1)]) hx hb dX2_begin_11 rfl hl (by decide) rfl (fun ls hl => ?_)
  exact w_X2_begin_49_12 had X nb_F _ _ h _ _ hP hS _ (lv_sub hl [1, 0] rfl)
set_option maxHeartbeats 4000000 in
set_option maxRecDepth 100000 in
theorem k_X6_sheet {r : Int32} {M' : nb_M} (had : nb_AD ad b0) (M N : nb_M) (p0 : Int32) (p1 : Int32) (p2 : Int32) (h : f_X6_sheet M p0 p1 p2 = some (r, M')) : nb_C l D ad ca b0 yX6_sheet wsX6_sheet 2 [.ref (ad 0), .int p0, .int p1, .int p2] M N (some (.int r)) M' N := by
  refine nb_of (cc := cX6_sheet) (maxL := 4) (ret := (some .int)) (own := RX6) (by decide +kernel) rfl rfl (Nat.le_of_ble_eq_true rfl) ?_
  intro p e s m args below meth c ls X hP hS hl
  have hl : lv_has ls 4 [(0, .ref (ad 0)), (1, .int p0), (2, .int p1), (3, .int p2)] := hl
  obtain ⟨hx, hb, hml, hown, hts, hr, hlk, hK, hZ⟩ := id X
  have w_1 := hts (.fieldLink RX6 46 "NineBreakages" "sheets" "[LNineBreakages$Sheet;") (by decide +kernel)
  have in6 : ∀ w ∈ u_ws RX6 TX6 8, w ∈ wsX6_sheet := fun w q => List.mem_cons_of_mem _ (List.mem_append_left _ (List.mem_append_right _ q))
  unfold f_X6_sheet at h
  refine lv_iload_n hx hb dX6_sheet_0 rfl (lv_at hl 1 rfl) ?_
  refine nb_callS (n := 1) (As := [.int p0]) (rest := []) hx hb hml hown hts hK hZ hP hS (k_X6_isSheet had M N p0) gX6_sheet_X6_isSheet rfl (by decide +kernel) (nb_rm (Nat.le_of_ble_eq_true rfl) (Nat.le_of_ble_eq_true rfl)) rfl hl.1 rfl (Nat.le_of_ble_eq_true rfl) dX6_sheet_1 (fun H locs hP hS => ?_)
  refine W.eq (g2 := F0 m 4 ls [.int (f_X6_isSheet p0)]) rfl ?_
  refine lv_if_eq (tgt := 14) hx hb dX6_sheet_4 (by decide) (fun c_2 => ?_) (fun c_2 => ?_)
  · have h := nb_t c_2 h
    refine lv_aload_n hx hb dX6_sheet_14 rfl (lv_at hl 0 rfl) ?_
    refine lv_iconst (v := (1 : Int32)) hx hb dX6_sheet_15 (by decide) ?_
    obtain ⟨r_3, M_3, e_3, h⟩ := nb_pE h
    refine nb_callV (n := 1) (As := [.int (1 : Int32)]) (rest := []) hx hb hml hown hts hK hZ hP hS (k_X6_fail had M N (1 : Int32) e_3) gX6_sheet_X6_fail rfl (by decide +kernel) (nb_rm (Nat.le_of_ble_eq_true rfl) (Nat.le_of_ble_eq_true rfl)) nb_a0 rfl rfl rfl hl.1 rfl (Nat.le_of_ble_eq_true rfl) dX6_sheet_16 (fun H locs hP hS => ?_)
    refine W.eq (g2 := F0 m 19 ls [.int r_3]) rfl ?_
    obtain ⟨rfl, rfl⟩ := nb_e2 h
    exact nb_iret hx hb hr hlk hP hS dX6_sheet_19
  · have h := nb_f c_2 h
    refine lv_iload_n hx hb dX6_sheet_7 rfl (lv_at hl 2 rfl) ?_
    refine nb_callS (n := 1) (As := [.int p1]) (rest := []) hx hb hml hown hts hK hZ hP hS (k_X6_isWidth had M N p1) gX6_sheet_X6_isWidth rfl (by decide +kernel) (nb_rm (Nat.le_of_ble_eq_true rfl) (Nat.le_of_ble_eq_true rfl)) rfl hl.1 rfl (Nat.le_of_ble_eq_true rfl) dX6_sheet_8 (fun H locs hP hS => ?_)
    refine W.eq (g2 := F0 m 11 ls [.int (f_X6_isWidth p1)]) rfl ?_
    refine lv_if_ne (tgt := 20) hx hb dX6_sheet_11 (by decide) (fun c_5 => ?_) (fun c_5 => ?_)
    · have h := nb_f c_5 h
      refine lv_iload_n hx hb dX6_sheet_20 rfl (lv_at hl 2 rfl) ?_
      refine lv_if_ne (tgt := 37) hx hb dX6_sheet_21 (by decide) (fun c_6 => ?_) (fun c_6 => ?_)
      · have h := nb_f c_6 h
        refine lv_iload_n hx hb dX6_sheet_37 rfl (lv_at hl 3 rfl) ?_
        refine lv_if_ge (tgt := 47) hx hb dX6_sheet_38 (by decide) (fun c_7 => ?_) (fun c_7 => ?_)
        · have h := nb_t c_7 h
          refine lv_iload_n hx hb dX6_sheet_47 rfl (lv_at hl 3 rfl) ?_
          refine lv_bipush (v := (24 : Int32)) hx hb dX6_sheet_48 (by decide) ?_
          refine lv_icmp_le (tgt := 59) hx hb dX6_sheet_50 (by decide) (fun c_8 => ?_) (fun c_8 => ?_)
          · have h := nb_t c_8 h
            refine lv_aload_n hx hb dX6_sheet_59 rfl (lv_at hl 0 rfl) ?_
            refine va_get (v := .ref (ad 42)) (C := RX6) (T := TX6) (N := 8) hx hb hts in6 hown hK.1 hP 0 nb_a0 rfl 5 (by decide) w_1 (fun _ h9 => h9) rfl dX6_sheet_60 ?_
            refine lv_iload_n hx hb dX6_sheet_63 rfl (lv_at hl 1 rfl) ?_
            by_cases c_9 : p0 = 0
            · have h := nb_t c_9 h
              refine nb_ald (t0 := 3) (E := RX2) (v := (0 : Int32)) hx hb hK hP nb_a42 rfl c_9 (nb_lit rfl) rfl dX6_sheet_64 ?_
              refine lv_iload_n hx hb dX6_sheet_65 rfl (lv_at hl 2 rfl) ?_
              refine lv_iload_n hx hb dX6_sheet_66 rfl (lv_at hl 3 rfl) ?_
              obtain ⟨M_10, e_10, h⟩ := nb_oE h
              refine nb_callV (n := 2) (As := [.int p1, .int p2]) (rest := []) hx hb hml hown hts hK hZ hP hS (k_X2_begin_43 had M N p1 p2 e_10) gX6_sheet_X2_begin rfl (by decide +kernel) (nb_rm (Nat.le_of_ble_eq_true rfl) (Nat.le_of_ble_eq_true rfl)) nb_a43 rfl rfl rfl hl.1 rfl (Nat.le_of_ble_eq_true rfl) dX6_sheet_67 (fun H locs hP hS => ?_)
              refine W.eq (g2 := F0 m 70 ls []) rfl ?_
              refine lv_iconst (v := (1 : Int32)) hx hb dX6_sheet_70 (by decide) ?_
              obtain ⟨rfl, rfl⟩ := nb_e2 h
              exact nb_iret hx hb hr hlk hP hS dX6_sheet_71
            · have h := nb_f c_9 h
              by_cases c_11 : p0 = 1
              · have h := nb_t c_11 h
                refine nb_ald (t0 := 3) (E := RX2) (v := (1 : Int32)) hx hb hK hP nb_a42 rfl c_11 (nb_lit rfl) rfl dX6_sheet_64 ?_
                refine lv_iload_n hx hb dX6_sheet_65 rfl (lv_at hl 2 rfl) ?_
                refine lv_iload_n hx hb dX6_sheet_66 rfl (lv_at hl 3 rfl) ?_
                obtain ⟨M_12, e_12, h⟩ := nb_oE h
                refine nb_callV (n := 2) (As := [.int p1, .int p2]) (rest := []) hx hb hml hown hts hK hZ hP hS (k_X2_begin_45 had M N p1 p2 e_12) gX6_sheet_X2_begin rfl (by decide +kernel) (nb_rm (Nat.le_of_ble_eq_true rfl) (Nat.le_of_ble_eq_true rfl)) nb_a45 rfl rfl rfl hl.1 rfl (Nat.le_of_ble_eq_true rfl) dX6_sheet_67 (fun H locs hP hS => ?_)
                refine W.eq (g2 := F0 m 70 ls []) rfl ?_
                refine lv_iconst (v := (1 : Int32)) hx hb dX6_sheet_70 (by decide) ?_
                obtain ⟨rfl, rfl⟩ := nb_e2 h
                exact nb_iret hx hb hr hlk hP hS dX6_sheet_71
              · have h := nb_f c_11 h
                by_cases c_13 : p0 = 2
                · have h := nb_t c_13 h
                  refine nb_ald (t0 := 3) (E := RX2) (v := (2 : Int32)) hx hb hK hP nb_a42 rfl c_13 (nb_lit rfl) rfl dX6_sheet_64 ?_
                  refine lv_iload_n hx hb dX6_sheet_65 rfl (lv_at hl 2 rfl) ?_
                  refine lv_iload_n hx hb dX6_sheet_66 rfl (lv_at hl 3 rfl) ?_
                  obtain ⟨M_14, e_14, h⟩ := nb_oE h
                  refine nb_callV (n := 2) (As := [.int p1, .int p2]) (rest := []) hx hb hml hown hts hK hZ hP hS (k_X2_begin_47 had M N p1 p2 e_14) gX6_sheet_X2_begin rfl (by decide +kernel) (nb_rm (Nat.le_of_ble_eq_true rfl) (Nat.le_of_ble_eq_true rfl)) nb_a47 rfl rfl rfl hl.1 rfl (Nat.le_of_ble_eq_true rfl) dX6_sheet_67 (fun H locs hP hS => ?_)
                  refine W.eq (g2 := F0 m 70 ls []) rfl ?_
                  refine lv_iconst (v := (1 : Int32)) hx hb dX6_sheet_70 (by decide) ?_
                  obtain ⟨rfl, rfl⟩ := nb_e2 h
                  exact nb_iret hx hb hr hlk hP hS dX6_sheet_71
                · have h := nb_f c_13 h
                  by_cases c_15 : p0 = 3
                  · have h := nb_t c_15 h
                    refine nb_ald (t0 := 3) (E := RX2) (v := (3 : Int32)) hx hb hK hP nb_a42 rfl c_15 (nb_lit rfl) rfl dX6_sheet_64 ?_
                    refine lv_iload_n hx hb dX6_sheet_65 rfl (lv_at hl 2 rfl) ?_
                    refine lv_iload_n hx hb dX6_sheet_66 rfl (lv_at hl 3 rfl) ?_
                    obtain ⟨M_16, e_16, h⟩ := nb_oE h
                    refine nb_callV (n := 2) (As := [.int p1, .int p2]) (rest := []) hx hb hml hown hts hK hZ hP hS (k_X2_begin_49 had M N p1 p2 e_16) gX6_sheet_X2_begin rfl (by decide +kernel) (nb_rm (Nat.le_of_ble_eq_true rfl) (Nat.le_of_ble_eq_true rfl)) nb_a49 rfl rfl rfl hl.1 rfl (Nat.le_of_ble_eq_true rfl) dX6_sheet_67 (fun H locs hP hS => ?_)
                    refine W.eq (g2 := F0 m 70 ls []) rfl ?_
                    refine lv_iconst (v := (1 : Int32)) hx hb dX6_sheet_70 (by decide) ?_
                    obtain ⟨rfl, rfl⟩ := nb_e2 h
                    exact nb_iret hx hb hr hlk hP hS dX6_sheet_71
                  · have h := nb_f c_15 h
                    cases h
          · have h := nb_f c_8 h
            refine lv_aload_n hx hb dX6_sheet_53 rfl (lv_at hl 0 rfl) ?_
            refine lv_iconst (v := (1 : Int32)) hx hb dX6_sheet_54 (by decide) ?_
            obtain ⟨r_17, M_17, e_17, h⟩ := nb_pE h
            refine nb_callV (n := 1) (As := [.int (1 : Int32)]) (rest := []) hx hb hml hown hts hK hZ hP hS (k_X6_fail had M N (1 : Int32) e_17) gX6_sheet_X6_fail rfl (by decide +kernel) (nb_rm (Nat.le_of_ble_eq_true rfl) (Nat.le_of_ble_eq_true rfl)) nb_a0 rfl rfl rfl hl.1 rfl (Nat.le_of_ble_eq_true rfl) dX6_sheet_55 (fun H locs hP hS => ?_)
            refine W.eq (g2 := F0 m 58 ls [.int r_17]) rfl ?_
            obtain ⟨rfl, rfl⟩ := nb_e2 h
            exact nb_iret hx hb hr hlk hP hS dX6_sheet_58
        · have h := nb_f c_7 h
          refine lv_aload_n hx hb dX6_sheet_41 rfl (lv_at hl 0 rfl) ?_
          refine lv_iconst (v := (3 : Int32)) hx hb dX6_sheet_42 (by decide) ?_
          obtain ⟨r_18, M_18, e_18, h⟩ := nb_pE h
          refine nb_callV (n := 1) (As := [.int (3 : Int32)]) (rest := []) hx hb hml hown hts hK hZ hP hS (k_X6_fail had M N (3 : Int32) e_18) gX6_sheet_X6_fail rfl (by decide +kernel) (nb_rm (Nat.le_of_ble_eq_true rfl) (Nat.le_of_ble_eq_true rfl)) nb_a0 rfl rfl rfl hl.1 rfl (Nat.le_of_ble_eq_true rfl) dX6_sheet_43 (fun H locs hP hS => ?_)
          refine W.eq (g2 := F0 m 46 ls [.int r_18]) rfl ?_
          obtain ⟨rfl, rfl⟩ := nb_e2 h
          exact nb_iret hx hb hr hlk hP hS dX6_sheet_46
      · have h := nb_t c_6 h
        refine lv_aload_n hx hb dX6_sheet_24 rfl (lv_at hl 0 rfl) ?_
        refine va_get (v := .ref (ad 42)) (C := RX6) (T := TX6) (N := 8) hx hb hts in6 hown hK.1 hP 0 nb_a0 rfl 5 (by decide) w_1 (fun _ h9 => h9) rfl dX6_sheet_25 ?_
        refine lv_iload_n hx hb dX6_sheet_28 rfl (lv_at hl 1 rfl) ?_
        by_cases c_19 : p0 = 0
        · have h := nb_t c_19 h
          refine nb_ald (t0 := 3) (E := RX2) (v := (0 : Int32)) hx hb hK hP nb_a42 rfl c_19 (nb_lit rfl) rfl dX6_sheet_29 ?_
          refine lv_iconst (v := (0 : Int32)) hx hb dX6_sheet_30 (by decide) ?_
          refine lv_iconst (v := (0 : Int32)) hx hb dX6_sheet_31 (by decide) ?_
          obtain ⟨M_20, e_20, h⟩ := nb_oE h
          refine nb_callV (n := 2) (As := [.int (0 : Int32), .int (0 : Int32)]) (rest := []) hx hb hml hown hts hK hZ hP hS (k_X2_begin_43 had M N (0 : Int32) (0 : Int32) e_20) gX6_sheet_X2_begin rfl (by decide +kernel) (nb_rm (Nat.le_of_ble_eq_true rfl) (Nat.le_of_ble_eq_true rfl)) nb_a43 rfl rfl rfl hl.1 rfl (Nat.le_of_ble_eq_true rfl) dX6_sheet_32 (fun H locs hP hS => ?_)
          refine W.eq (g2 := F0 m 35 ls []) rfl ?_
          refine lv_iconst (v := (1 : Int32)) hx hb dX6_sheet_35 (by decide) ?_
          obtain ⟨rfl, rfl⟩ := nb_e2 h
          exact nb_iret hx hb hr hlk hP hS dX6_sheet_36
        · have h := nb_f c_19 h
          by_cases c_21 : p0 = 1
          · have h := nb_t c_21 h
            refine nb_ald (t0 := 3) (E := RX2) (v := (1 : Int32)) hx hb hK hP nb_a42 rfl c_21 (nb_lit rfl) rfl dX6_sheet_29 ?_
            refine lv_iconst (v := (0 : Int32)) hx hb dX6_sheet_30 (by decide) ?_
            refine lv_iconst (v := (0 : Int32)) hx hb dX6_sheet_31 (by decide) ?_
            obtain ⟨M_22, e_22, h⟩ := nb_oE h
            refine nb_callV (n := 2) (As := [.int (0 : Int32), .int (0 : Int32)]) (rest := []) hx hb hml hown hts hK hZ hP hS (k_X2_begin_45 had M N (0 : Int32) (0 : Int32) e_22) gX6_sheet_X2_begin rfl (by decide +kernel) (nb_rm (Nat.le_of_ble_eq_true rfl) (Nat.le_of_ble_eq_true rfl)) nb_a45 rfl rfl rfl hl.1 rfl (Nat.le_of_ble_eq_true rfl) dX6_sheet_32 (fun H locs hP hS => ?_)
            refine W.eq (g2 := F0 m 35 ls []) rfl ?_
            refine lv_iconst (v := (1 : Int32)) hx hb dX6_sheet_35 (by decide) ?_
            obtain ⟨rfl, rfl⟩ := nb_e2 h
            exact nb_iret hx hb hr hlk hP hS dX6_sheet_36
          · have h := nb_f c_21 h
            by_cases c_23 : p0 = 2
            · have h := nb_t c_23 h
              refine nb_ald (t0 := 3) (E := RX2) (v := (2 : Int32)) hx hb hK hP nb_a42 rfl c_23 (nb_lit rfl) rfl dX6_sheet_29 ?_
              refine lv_iconst (v := (0 : Int32)) hx hb dX6_sheet_30 (by decide) ?_
              refine lv_iconst (v := (0 : Int32)) hx hb dX6_sheet_31 (by decide) ?_
              obtain ⟨M_24, e_24, h⟩ := nb_oE h
              refine nb_callV (n := 2) (As := [.int (0 : Int32), .int (0 : Int32)]) (rest := []) hx hb hml hown hts hK hZ hP hS (k_X2_begin_47 had M N (0 : Int32) (0 : Int32) e_24) gX6_sheet_X2_begin rfl (by decide +kernel) (nb_rm (Nat.le_of_ble_eq_true rfl) (Nat.le_of_ble_eq_true rfl)) nb_a47 rfl rfl rfl hl.1 rfl (Nat.le_of_ble_eq_true rfl) dX6_sheet_32 (fun H locs hP hS => ?_)
              refine W.eq (g2 := F0 m 35 ls []) rfl ?_
              refine lv_iconst (v := (1 : Int32)) hx hb dX6_sheet_35 (by decide) ?_
              obtain ⟨rfl, rfl⟩ := nb_e2 h
              exact nb_iret hx hb hr hlk hP hS dX6_sheet_36
            · have h := nb_f c_23 h
              by_cases c_25 : p0 = 3
              · have h := nb_t c_25 h
                refine nb_ald (t0 := 3) (E := RX2) (v := (3 : Int32)) hx hb hK hP nb_a42 rfl c_25 (nb_lit rfl) rfl dX6_sheet_29 ?_
                refine lv_iconst (v := (0 : Int32)) hx hb dX6_sheet_30 (by decide) ?_
                refine lv_iconst (v := (0 : Int32)) hx hb dX6_sheet_31 (by decide) ?_
                obtain ⟨M_26, e_26, h⟩ := nb_oE h
                refine nb_callV (n := 2) (As := [.int (0 : Int32), .int (0 : Int32)]) (rest := []) hx hb hml hown hts hK hZ hP hS (k_X2_begin_49 had M N (0 : Int32) (0 : Int32) e_26) gX6_sheet_X2_begin rfl (by decide +kernel) (nb_rm (Nat.le_of_ble_eq_true rfl) (Nat.le_of_ble_eq_true rfl)) nb_a49 rfl rfl rfl hl.1 rfl (Nat.le_of_ble_eq_true rfl) dX6_sheet_32 (fun H locs hP hS => ?_)
                refine W.eq (g2 := F0 m 35 ls []) rfl ?_
                refine lv_iconst (v := (1 : Int32)) hx hb dX6_sheet_35 (by decide) ?_
                obtain ⟨rfl, rfl⟩ := nb_e2 h
                exact nb_iret hx hb hr hlk hP hS dX6_sheet_36
              · have h := nb_f c_25 h
                cases h
    · have h := nb_t c_5 h
      refine lv_aload_n hx hb dX6_sheet_14 rfl (lv_at hl 0 rfl) ?_
      refine lv_iconst (v := (1 : Int32)) hx hb dX6_sheet_15 (by decide) ?_
      obtain ⟨r_27, M_27, e_27, h⟩ := nb_pE h
      refine nb_callV (n := 1) (As := [.int (1 : Int32)]) (rest := []) hx hb hml hown hts hK hZ hP hS (k_X6_fail had M N (1 : Int32) e_27) gX6_sheet_X6_fail rfl (by decide +kernel) (nb_rm (Nat.le_of_ble_eq_true rfl) (Nat.le_of_ble_eq_true rfl)) nb_a0 rfl rfl rfl hl.1 rfl (Nat.le_of_ble_eq_true rfl) dX6_sheet_16 (fun H locs hP hS => ?_)
      refine W.eq (g2 := F0 m 19 ls [.int r_27]) rfl ?_
      obtain ⟨rfl, rfl⟩ := nb_e2 h
      exact nb_iret hx hb hr hlk hP hS dX6_sheet_19
set_option maxHeartbeats 4000000 in
set_option maxRecDepth 100000 in
theorem k_X2_lowestBits_43 (had : nb_AD ad b0) (M N : nb_M) (p0 : Int32) : nb_C l D ad ca b0 yX2_lowestBits wsX2_lowestBits 0 [.ref (ad 43), .int p0] M N (some (.int (f_X2_lowestBits_43 M p0))) M N := by
  obtain ⟨r, h⟩ : ∃ r, f_X2_lowestBits_43 M p0 = r := ⟨_, rfl⟩
  rw [h]
  refine nb_of (cc := cX2_lowestBits) (maxL := 2) (ret := (some .int)) (own := RX2) (by decide +kernel) rfl rfl (Nat.le_of_ble_eq_true rfl) ?_
  intro p e s m args below meth c ls X hP hS hl
  have hl : lv_has ls 2 [(0, .ref (ad 43)), (1, .int p0)] := hl
  obtain ⟨hx, hb, hml, hown, hts, hr, hlk, hK, hZ⟩ := id X
  have w_1 := hts (.fieldLink RX2 15 "NineBreakages$Sheet" "bits" "I") (by decide +kernel)
  have in2 : ∀ w ∈ u_ws RX2 TX2 3, w ∈ wsX2_lowestBits := fun w q => List.mem_cons_of_mem _ (List.mem_append_right _ q)
  unfold f_X2_lowestBits_43 at h
  refine lv_aload_n hx hb dX2_lowestBits_0 rfl (lv_at hl 0 rfl) ?_
  refine va_get (v := .int (M.1 43 1)) (C := RX2) (T := TX2) (N := 3) hx hb hts in2 hown hK.1 hP 43 nb_a43 rfl 1 (by decide) w_1 (fun _ h9 => h9) rfl dX2_lowestBits_1 ?_
  refine lv_bipush (v := (8 : Int32)) hx hb dX2_lowestBits_4 (by decide) ?_
  refine lv_icmp_ne (tgt := 14) hx hb dX2_lowestBits_6 (by decide) (fun c_1 => ?_) (fun c_1 => ?_)
  · have h := nb_f c_1 h
    refine lv_aload_n hx hb dX2_lowestBits_14 rfl (lv_at hl 0 rfl) ?_
    refine va_get (v := .int (M.1 43 1)) (C := RX2) (T := TX2) (N := 3) hx hb hts in2 hown hK.1 hP 43 nb_a43 rfl 1 (by decide) w_1 (fun _ h9 => h9) rfl dX2_lowestBits_15 ?_
    refine lv_bipush (v := (16 : Int32)) hx hb dX2_lowestBits_18 (by decide) ?_
    refine lv_icmp_ne (tgt := 28) hx hb dX2_lowestBits_20 (by decide) (fun c_2 => ?_) (fun c_2 => ?_)
    · have h := nb_f c_2 h
      refine lv_iload_n hx hb dX2_lowestBits_28 rfl (lv_at hl 1 rfl) ?_
      obtain rfl := nb_e3 h
      exact nb_iret hx hb hr hlk hP hS dX2_lowestBits_29
    · have h := nb_t c_2 h
      refine lv_iload_n hx hb dX2_lowestBits_23 rfl (lv_at hl 1 rfl) ?_
      refine lv_i2s hx hb dX2_lowestBits_24 rfl ?_
      refine lv_goto (tgt := 29) hx hb dX2_lowestBits_25 (by decide) ?_
      obtain rfl := nb_e3 h
      exact nb_iret hx hb hr hlk hP hS dX2_lowestBits_29
  · have h := nb_t c_1 h
    refine lv_iload_n hx hb dX2_lowestBits_9 rfl (lv_at hl 1 rfl) ?_
    refine lv_i2b hx hb dX2_lowestBits_10 rfl ?_
    refine lv_goto (tgt := 29) hx hb dX2_lowestBits_11 (by decide) ?_
    obtain rfl := nb_e3 h
    exact nb_iret hx hb hr hlk hP hS dX2_lowestBits_29
set_option maxHeartbeats 4000000 in
set_option maxRecDepth 100000 in
theorem k_X2_lowestBits_45 (had : nb_AD ad b0) (M N : nb_M) (p0 : Int32) : nb_C l D ad ca b0 yX2_lowestBits wsX2_lowestBits 0 [.ref (ad 45), .int p0] M N (some (.int (f_X2_lowestBits_45 M p0))) M N := by
  obtain ⟨r, h⟩ : ∃ r, f_X2_lowestBits_45 M p0 = r := ⟨_, rfl⟩
  rw [h]
  refine nb_of (cc := cX2_lowestBits) (maxL := 2) (ret := (some .int)) (own := RX2) (by decide +kernel) rfl rfl (Nat.le_of_ble_eq_true rfl) ?_
  intro p e s m args below meth c ls X hP hS hl
  have hl : lv_has ls 2 [(0, .ref (ad 45)), (1, .int p0)] := hl
  obtain ⟨hx, hb, hml, hown, hts, hr, hlk, hK, hZ⟩ := id X
  have w_1 := hts (.fieldLink RX2 15 "NineBreakages$Sheet" "bits" "I") (by decide +kernel)
  have in2 : ∀ w ∈ u_ws RX2 TX2 3, w ∈ wsX2_lowestBits := fun w q => List.mem_cons_of_mem _ (List.mem_append_right _ q)
  unfold f_X2_lowestBits_45 at h
  refine lv_aload_n hx hb dX2_lowestBits_0 rfl (lv_at hl 0 rfl) ?_
  refine va_get (v := .int (M.1 45 1)) (C := RX2) (T := TX2) (N := 3) hx hb hts in2 hown hK.1 hP 45 nb_a45 rfl 1 (by decide) w_1 (fun _ h9 => h9) rfl dX2_lowestBits_1 ?_
  refine lv_bipush (v := (8 : Int32)) hx hb dX2_lowestBits_4 (by decide) ?_
  refine lv_icmp_ne (tgt := 14) hx hb dX2_lowestBits_6 (by decide) (fun c_1 => ?_) (fun c_1 => ?_)
  · have h := nb_f c_1 h
    refine lv_aload_n hx hb dX2_lowestBits_14 rfl (lv_at hl 0 rfl) ?_
    refine va_get (v := .int (M.1 45 1)) (C := RX2) (T := TX2) (N := 3) hx hb hts in2 hown hK.1 hP 45 nb_a45 rfl 1 (by decide) w_1 (fun _ h9 => h9) rfl dX2_lowestBits_15 ?_
    refine lv_bipush (v := (16 : Int32)) hx hb dX2_lowestBits_18 (by decide) ?_
    refine lv_icmp_ne (tgt := 28) hx hb dX2_lowestBits_20 (by decide) (fun c_2 => ?_) (fun c_2 => ?_)
    · have h := nb_f c_2 h
      refine lv_iload_n hx hb dX2_lowestBits_28 rfl (lv_at hl 1 rfl) ?_
      obtain rfl := nb_e3 h
      exact nb_iret hx hb hr hlk hP hS dX2_lowestBits_29
    · have h := nb_t c_2 h
      refine lv_iload_n hx hb dX2_lowestBits_23 rfl (lv_at hl 1 rfl) ?_
      refine lv_i2s hx hb dX2_lowestBits_24 rfl ?_
      refine lv_goto (tgt := 29) hx hb dX2_lowestBits_25 (by decide) ?_
      obtain rfl := nb_e3 h
      exact nb_iret hx hb hr hlk hP hS dX2_lowestBits_29
  · have h := nb_t c_1 h
    refine lv_iload_n hx hb dX2_lowestBits_9 rfl (lv_at hl 1 rfl) ?_
    refine lv_i2b hx hb dX2_lowestBits_10 rfl ?_
    refine lv_goto (tgt := 29) hx hb dX2_lowestBits_11 (by decide) ?_
    obtain rfl := nb_e3 h
    exact nb_iret hx hb hr hlk hP hS dX2_lowestBits_29
set_option maxHeartbeats 4000000 in
set_option maxRecDepth 100000 in
theorem k_X2_lowestBits_47 (had : nb_AD ad b0) (M N : nb_M) (p0 : Int32) : nb_C l D ad ca b0 yX2_lowestBits wsX2_lowestBits 0 [.ref (ad 47), .int p0] M N (some (.int (f_X2_lowestBits_47 M p0))) M N := by
  obtain ⟨r, h⟩ : ∃ r, f_X2_lowestBits_47 M p0 = r := ⟨_, rfl⟩
  rw [h]
  refine nb_of (cc := cX2_lowestBits) (maxL := 2) (ret := (some .int)) (own := RX2) (by decide +kernel) rfl rfl (Nat.le_of_ble_eq_true rfl) ?_
  intro p e s m args below meth c ls X hP hS hl
  have hl : lv_has ls 2 [(0, .ref (ad 47)), (1, .int p0)] := hl
  obtain ⟨hx, hb, hml, hown, hts, hr, hlk, hK, hZ⟩ := id X
  have w_1 := hts (.fieldLink RX2 15 "NineBreakages$Sheet" "bits" "I") (by decide +kernel)
  have in2 : ∀ w ∈ u_ws RX2 TX2 3, w ∈ wsX2_lowestBits := fun w q => List.mem_cons_of_mem _ (List.mem_append_right _ q)
  unfold f_X2_lowestBits_47 at h
  refine lv_aload_n hx hb dX2_lowestBits_0 rfl (lv_at hl 0 rfl) ?_
  refine va_get (v := .int (M.1 47 1)) (C := RX2) (T := TX2) (N := 3) hx hb hts in2 hown hK.1 hP 47 nb_a47 rfl 1 (by decide) w_1 (fun _ h9 => h9) rfl dX2_lowestBits_1 ?_
  refine lv_bipush (v := (8 : Int32)) hx hb dX2_lowestBits_4 (by decide) ?_
  refine lv_icmp_ne (tgt := 14) hx hb dX2_lowestBits_6 (by decide) (fun c_1 => ?_) (fun c_1 => ?_)
  · have h := nb_f c_1 h
    refine lv_aload_n hx hb dX2_lowestBits_14 rfl (lv_at hl 0 rfl) ?_
    refine va_get (v := .int (M.1 47 1)) (C := RX2) (T := TX2) (N := 3) hx hb hts in2 hown hK.1 hP 47 nb_a47 rfl 1 (by decide) w_1 (fun _ h9 => h9) rfl dX2_lowestBits_15 ?_
    refine lv_bipush (v := (16 : Int32)) hx hb dX2_lowestBits_18 (by decide) ?_
    refine lv_icmp_ne (tgt := 28) hx hb dX2_lowestBits_20 (by decide) (fun c_2 => ?_) (fun c_2 => ?_)
    · have h := nb_f c_2 h
      refine lv_iload_n hx hb dX2_lowestBits_28 rfl (lv_at hl 1 rfl) ?_
      obtain rfl := nb_e3 h
      exact nb_iret hx hb hr hlk hP hS dX2_lowestBits_29
    · have h := nb_t c_2 h
      refine lv_iload_n hx hb dX2_lowestBits_23 rfl (lv_at hl 1 rfl) ?_
      refine lv_i2s hx hb dX2_lowestBits_24 rfl ?_
      refine lv_goto (tgt := 29) hx hb dX2_lowestBits_25 (by decide) ?_
      obtain rfl := nb_e3 h
      exact nb_iret hx hb hr hlk hP hS dX2_lowestBits_29
  · have h := nb_t c_1 h
    refine lv_iload_n hx hb dX2_lowestBits_9 rfl (lv_at hl 1 rfl) ?_
    refine lv_i2b hx hb dX2_lowestBits_10 rfl ?_
    refine lv_goto (tgt := 29) hx hb dX2_lowestBits_11 (by decide) ?_
    obtain rfl := nb_e3 h
    exact nb_iret hx hb hr hlk hP hS dX2_lowestBits_29
set_option maxHeartbeats 4000000 in
set_option maxRecDepth 100000 in
theorem k_X2_lowestBits_49 (had : nb_AD ad b0) (M N : nb_M) (p0 : Int32) : nb_C l D ad ca b0 yX2_lowestBits wsX2_lowestBits 0 [.ref (ad 49), .int p0] M N (some (.int (f_X2_lowestBits_49 M p0))) M N := by
  obtain ⟨r, h⟩ : ∃ r, f_X2_lowestBits_49 M p0 = r := ⟨_, rfl⟩
  rw [h]
  refine nb_of (cc := cX2_lowestBits) (maxL := 2) (ret := (some .int)) (own := RX2) (by decide +kernel) rfl rfl (Nat.le_of_ble_eq_true rfl) ?_
  intro p e s m args below meth c ls X hP hS hl
  have hl : lv_has ls 2 [(0, .ref (ad 49)), (1, .int p0)] := hl
  obtain ⟨hx, hb, hml, hown, hts, hr, hlk, hK, hZ⟩ := id X
  have w_1 := hts (.fieldLink RX2 15 "NineBreakages$Sheet" "bits" "I") (by decide +kernel)
  have in2 : ∀ w ∈ u_ws RX2 TX2 3, w ∈ wsX2_lowestBits := fun w q => List.mem_cons_of_mem _ (List.mem_append_right _ q)
  unfold f_X2_lowestBits_49 at h
  refine lv_aload_n hx hb dX2_lowestBits_0 rfl (lv_at hl 0 rfl) ?_
  refine va_get (v := .int (M.1 49 1)) (C := RX2) (T := TX2) (N := 3) hx hb hts in2 hown hK.1 hP 49 nb_a49 rfl 1 (by decide) w_1 (fun _ h9 => h9) rfl dX2_lowestBits_1 ?_
  refine lv_bipush (v := (8 : Int32)) hx hb dX2_lowestBits_4 (by decide) ?_
  refine lv_icmp_ne (tgt := 14) hx hb dX2_lowestBits_6 (by decide) (fun c_1 => ?_) (fun c_1 => ?_)
  · have h := nb_f c_1 h
    refine lv_aload_n hx hb dX2_lowestBits_14 rfl (lv_at hl 0 rfl) ?_
    refine va_get (v := .int (M.1 49 1)) (C := RX2) (T := TX2) (N := 3) hx hb hts in2 hown hK.1 hP 49 nb_a49 rfl 1 (by decide) w_1 (fun _ h9 => h9) rfl dX2_lowestBits_15 ?_
    refine lv_bipush (v := (16 : Int32)) hx hb dX2_lowestBits_18 (by decide) ?_
    refine lv_icmp_ne (tgt := 28) hx hb dX2_lowestBits_20 (by decide) (fun c_2 => ?_) (fun c_2 => ?_)
    · have h := nb_f c_2 h
      refine lv_iload_n hx hb dX2_lowestBits_28 rfl (lv_at hl 1 rfl) ?_
      obtain rfl := nb_e3 h
      exact nb_iret hx hb hr hlk hP hS dX2_lowestBits_29
    · have h := nb_t c_2 h
      refine lv_iload_n hx hb dX2_lowestBits_23 rfl (lv_at hl 1 rfl) ?_
      refine lv_i2s hx hb dX2_lowestBits_24 rfl ?_
      refine lv_goto (tgt := 29) hx hb dX2_lowestBits_25 (by decide) ?_
      obtain rfl := nb_e3 h
      exact nb_iret hx hb hr hlk hP hS dX2_lowestBits_29
  · have h := nb_t c_1 h
    refine lv_iload_n hx hb dX2_lowestBits_9 rfl (lv_at hl 1 rfl) ?_
    refine lv_i2b hx hb dX2_lowestBits_10 rfl ?_
    refine lv_goto (tgt := 29) hx hb dX2_lowestBits_11 (by decide) ?_
    obtain rfl := nb_e3 h
    exact nb_iret hx hb hr hlk hP hS dX2_lowestBits_29
set_option maxHeartbeats 4000000 in
set_option maxRecDepth 100000 in
theorem k_X6_put {r : Int32} {M' : nb_M} (had : nb_AD ad b0) (M N : nb_M) (p0 : Int32) (p1 : Int32) (p2 : Int32) (h : f_X6_put M p0 p1 p2 = some (r, M')) : nb_C l D ad ca b0 yX6_put wsX6_put 2 [.ref (ad 0), .int p0, .int p1, .int p2] M N (some (.int r)) M' N := by
  refine nb_of (cc := cX6_put) (maxL := 5) (ret := (some .int)) (own := RX6) (by decide +kernel) rfl rfl (Nat.le_of_ble_eq_true rfl) ?_
  intro p e s m args below meth c ls X hP hS hl
  have hl : lv_has ls 5 [(0, .ref (ad 0)), (1, .int p0), (2, .int p1), (3, .int p2)] := hl
  obtain ⟨hx, hb, hml, hown, hts, hr, hlk, hK, hZ⟩ := id X
  have w_1 := hts (.fieldLink RX6 46 "NineBreakages" "sheets" "[LNineBreakages$Sheet;") (by decide +kernel)
  have in6 : ∀ w ∈ u_ws RX6 TX6 8, w ∈ wsX6_put := fun w q => List.mem_cons_of_mem _ (List.mem_append_left _ (List.mem_append_right _ q))
  have w_3 := hts (.fieldLink RX6 251 "NineBreakages$Sheet" "size" "I") (by decide +kernel)
  have in2 : ∀ w ∈ u_ws RX2 TX2 3, w ∈ wsX6_put := fun w q => List.mem_cons_of_mem _ (List.mem_append_right _ q)
  have w_5 := hts (.fieldLink RX6 254 "NineBreakages$Sheet" "numbers" "[I") (by decide +kernel)
  unfold f_X6_put at h
  refine lv_iload_n hx hb dX6_put_0 rfl (lv_at hl 1 rfl) ?_
  refine nb_callS (n := 1) (As := [.int p0]) (rest := []) hx hb hml hown hts hK hZ hP hS (k_X6_isSheet had M N p0) gX6_put_X6_isSheet rfl (by decide +kernel) (nb_rm (Nat.le_of_ble_eq_true rfl) (Nat.le_of_ble_eq_true rfl)) rfl hl.1 rfl (Nat.le_of_ble_eq_true rfl) dX6_put_1 (fun H locs hP hS => ?_)
  refine W.eq (g2 := F0 m 4 ls [.int (f_X6_isSheet p0)]) rfl ?_
  refine lv_if_ne (tgt := 13) hx hb dX6_put_4 (by decide) (fun c_2 => ?_) (fun c_2 => ?_)
  · have h := nb_f c_2 h
    refine lv_aload_n hx hb dX6_put_13 rfl (lv_at hl 0 rfl) ?_
    refine va_get (v := .ref (ad 42)) (C := RX6) (T := TX6) (N := 8) hx hb hts in6 hown hK.1 hP 0 nb_a0 rfl 5 (by decide) w_1 (fun _ h9 => h9) rfl dX6_put_14 ?_
    refine lv_iload_n hx hb dX6_put_17 rfl (lv_at hl 1 rfl) ?_
    by_cases c_3 : p0 = 0
    · have h := nb_t c_3 h
      refine nb_ald (t0 := 3) (E := RX2) (v := (0 : Int32)) hx hb hK hP nb_a42 rfl c_3 (nb_lit rfl) rfl dX6_put_18 ?_
      refine lv_astore (lv' := [(4, .ref (ad 43)), (0, .ref (ad 0)), (1, .int p0), (2, .int p1), (3, .int p2)]) hx hb dX6_put_19 hl (by decide) rfl (fun ls hl => ?_)
      refine lv_aload hx hb dX6_put_21 (lv_at hl 0 rfl) ?_
      refine nb_callV (n := 0) (As := []) (rest := []) hx hb hml hown hts hK hZ hP hS (k_X2_isMissing_43 had M N) gX6_put_X2_isMissing rfl (by decide +kernel) (nb_rm (Nat.le_of_ble_eq_true rfl) (Nat.le_of_ble_eq_true rfl)) nb_a43 rfl rfl rfl hl.1 rfl (Nat.le_of_ble_eq_true rfl) dX6_put_23 (fun H locs hP hS => ?_)
      refine W.eq (g2 := F0 m 26 ls [.int (f_X2_isMissing_43 M)]) rfl ?_
      refine lv_if_eq (tgt := 35) hx hb dX6_put_26 (by decide) (fun c_5 => ?_) (fun c_5 => ?_)
      · have h := nb_t c_5 h
        refine lv_iload_n hx hb dX6_put_35 rfl (lv_at hl 3 rfl) ?_
        refine lv_if_lt (tgt := 48) hx hb dX6_put_36 (by decide) (fun c_6 => ?_) (fun c_6 => ?_)
        · have h := nb_t c_6 h
          refine lv_aload_n hx hb dX6_put_48 rfl (lv_at hl 1 rfl) ?_
          refine lv_iconst (v := (1 : Int32)) hx hb dX6_put_49 (by decide) ?_
          obtain ⟨r_7, M_7, e_7, h⟩ := nb_pE h
          refine nb_callV (n := 1) (As := [.int (1 : Int32)]) (rest := []) hx hb hml hown hts hK hZ hP hS (k_X6_fail had M N (1 : Int32) e_7) gX6_put_X6_fail rfl (by decide +kernel) (nb_rm (Nat.le_of_ble_eq_true rfl) (Nat.le_of_ble_eq_true rfl)) nb_a0 rfl rfl rfl hl.1 rfl (Nat.le_of_ble_eq_true rfl) dX6_put_50 (fun H locs hP hS => ?_)
          refine W.eq (g2 := F0 m 53 ls [.int r_7]) rfl ?_
          obtain ⟨rfl, rfl⟩ := nb_e2 h
          exact nb_iret hx hb hr hlk hP hS dX6_put_53
        · have h := nb_f c_6 h
          refine lv_iload_n hx hb dX6_put_39 rfl (lv_at hl 3 rfl) ?_
          refine lv_aload hx hb dX6_put_40 (lv_at hl 0 rfl) ?_
          refine va_get (v := .int (M.1 43 2)) (C := RX2) (T := TX2) (N := 3) hx hb hts in2 hown hK.1 hP 43 nb_a43 rfl 2 (by decide) w_3 (fun _ h9 => h9) rfl dX6_put_42 ?_
          refine lv_icmp_lt (tgt := 54) hx hb dX6_put_45 (by decide) (fun c_8 => ?_) (fun c_8 => ?_)
          · have h := nb_t c_8 h
            refine lv_aload hx hb dX6_put_54 (lv_at hl 0 rfl) ?_
            refine va_get (v := .ref (ad 44)) (C := RX2) (T := TX2) (N := 3) hx hb hts in2 hown hK.1 hP 43 nb_a43 rfl 0 (by decide) w_5 (fun _ h9 => h9) rfl dX6_put_56 ?_
            refine lv_iload_n hx hb dX6_put_59 rfl (lv_at hl 3 rfl) ?_
            refine lv_aload hx hb dX6_put_60 (lv_at hl 0 rfl) ?_
            refine lv_iload_n hx hb dX6_put_62 rfl (lv_at hl 4 rfl) ?_
            refine nb_callV (n := 1) (As := [.int p2]) (rest := [.int p1, .ref (ad 44)]) hx hb hml hown hts hK hZ hP hS (k_X2_lowestBits_43 had M N p2) gX6_put_X2_lowestBits rfl (by decide +kernel) (nb_rm (Nat.le_of_ble_eq_true rfl) (Nat.le_of_ble_eq_true rfl)) nb_a43 rfl rfl rfl hl.1 rfl (Nat.le_of_ble_eq_true rfl) dX6_put_63 (fun H locs hP hS => ?_)
            refine W.eq (g2 := F0 m 66 ls [.int (f_X2_lowestBits_43 M p2), .int p1, .ref (ad 44)]) rfl ?_
            obtain ⟨c_10, h⟩ := nb_c h
            refine nb_iast hx hb had hK hP hS nb_a44 c_10 (nb_t44 _ _) dX6_put_66 (fun H locs hP hS => ?_)
            obtain ⟨M_11, e_11, h⟩ := nb_nE h
            rw [e_11] at hP
            refine lv_iconst (v := (1 : Int32)) hx hb dX6_put_67 (by decide) ?_
            obtain ⟨rfl, rfl⟩ := nb_e2 h
            exact nb_iret hx hb hr hlk hP hS dX6_put_68
          · have h := nb_f c_8 h
            refine lv_aload_n hx hb dX6_put_48 rfl (lv_at hl 1 rfl) ?_
            refine lv_iconst (v := (1 : Int32)) hx hb dX6_put_49 (by decide) ?_
            obtain ⟨r_12, M_12, e_12, h⟩ := nb_pE h
            refine nb_callV (n := 1) (As := [.int (1 : Int32)]) (rest := []) hx hb hml hown hts hK hZ hP hS (k_X6_fail had M N (1 : Int32) e_12) gX6_put_X6_fail rfl (by decide +kernel) (nb_rm (Nat.le_of_ble_eq_true rfl) (Nat.le_of_ble_eq_true rfl)) nb_a0 rfl rfl rfl hl.1 rfl (Nat.le_of_ble_eq_true rfl) dX6_put_50 (fun H locs hP hS => ?_)
            refine W.eq (g2 := F0 m 53 ls [.int r_12]) rfl ?_
            obtain ⟨rfl, rfl⟩ := nb_e2 h
            exact nb_iret hx hb hr hlk hP hS dX6_put_53
      · have h := nb_f c_5 h
        refine lv_aload_n hx hb dX6_put_29 rfl (lv_at hl 1 rfl) ?_
        refine lv_iconst (v := (2 : Int32)) hx hb dX6_put_30 (by decide) ?_
        obtain ⟨r_13, M_13, e_13, h⟩ := nb_pE h
        refine nb_callV (n := 1) (As := [.int (2 : Int32)]) (rest := []) hx hb hml hown hts hK hZ hP hS (k_X6_fail had M N (2 : Int32) e_13) gX6_put_X6_fail rfl (by decide +kernel) (nb_rm (Nat.le_of_ble_eq_true rfl) (Nat.le_of_ble_eq_true rfl)) nb_a0 rfl rfl rfl hl.1 rfl (Nat.le_of_ble_eq_true rfl) dX6_put_31 (fun H locs hP hS => ?_)
        refine W.eq (g2 := F0 m 34 ls [.int r_13]) rfl ?_
        obtain ⟨rfl, rfl⟩ := nb_e2 h
        exact nb_iret hx hb hr hlk hP hS dX6_put_34
    · have h := nb_f c_3 h
      by_cases c_14 : p0 = 1
      · have h := nb_t c_14 h
        refine nb_ald (t0 := 3) (E := RX2) (v := (1 : Int32)) hx hb hK hP nb_a42 rfl c_14 (nb_lit rfl) rfl dX6_put_18 ?_
        refine lv_astore (lv' := [(4, .ref (ad 45)), (0, .ref (ad 0)), (1, .int p0), (2, .int p1), (3, .int p2)]) hx hb dX6_put_19 hl (by decide) rfl (fun ls hl => ?_)
        refine lv_aload hx hb dX6_put_21 (lv_at hl 0 rfl) ?_
        refine nb_callV (n := 0) (As := []) (rest := []) hx hb hml hown hts hK hZ hP hS (k_X2_isMissing_45 had M N) gX6_put_X2_isMissing rfl (by decide +kernel) (nb_rm (Nat.le_of_ble_eq_true rfl) (Nat.le_of_ble_eq_true rfl)) nb_a45 rfl rfl rfl hl.1 rfl (Nat.le_of_ble_eq_true rfl) dX6_put_23 (fun H locs hP hS => ?_)
        refine W.eq (g2 := F0 m 26 ls [.int (f_X2_isMissing_45 M)]) rfl ?_
        refine lv_if_eq (tgt := 35) hx hb dX6_put_26 (by decide) (fun c_16 => ?_) (fun c_16 => ?_)
        · have h := nb_t c_16 h
          refine lv_iload_n hx hb dX6_put_35 rfl (lv_at hl 3 rfl) ?_
          refine lv_if_lt (tgt := 48) hx hb dX6_put_36 (by decide) (fun c_17 => ?_) (fun c_17 => ?_)
          · have h := nb_t c_17 h
            refine lv_aload_n hx hb dX6_put_48 rfl (lv_at hl 1 rfl) ?_
            refine lv_iconst (v := (1 : Int32)) hx hb dX6_put_49 (by decide) ?_
            obtain ⟨r_18, M_18, e_18, h⟩ := nb_pE h
            refine nb_callV (n := 1) (As := [.int (1 : Int32)]) (rest := []) hx hb hml hown hts hK hZ hP hS (k_X6_fail had M N (1 : Int32) e_18) gX6_put_X6_fail rfl (by decide +kernel) (nb_rm (Nat.le_of_ble_eq_true rfl) (Nat.le_of_ble_eq_true rfl)) nb_a0 rfl rfl rfl hl.1 rfl (Nat.le_of_ble_eq_true rfl) dX6_put_50 (fun H locs hP hS => ?_)
            refine W.eq (g2 := F0 m 53 ls [.int r_18]) rfl ?_
            obtain ⟨rfl, rfl⟩ := nb_e2 h
            exact nb_iret hx hb hr hlk hP hS dX6_put_53
          · have h := nb_f c_17 h
            refine lv_iload_n hx hb dX6_put_39 rfl (lv_at hl 3 rfl) ?_
            refine lv_aload hx hb dX6_put_40 (lv_at hl 0 rfl) ?_
            refine va_get (v := .int (M.1 45 2)) (C := RX2) (T := TX2) (N := 3) hx hb hts in2 hown hK.1 hP 45 nb_a45 rfl 2 (by decide) w_3 (fun _ h9 => h9) rfl dX6_put_42 ?_
            refine lv_icmp_lt (tgt := 54) hx hb dX6_put_45 (by decide) (fun c_19 => ?_) (fun c_19 => ?_)
            · have h := nb_t c_19 h
              refine lv_aload hx hb dX6_put_54 (lv_at hl 0 rfl) ?_
              refine va_get (v := .ref (ad 46)) (C := RX2) (T := TX2) (N := 3) hx hb hts in2 hown hK.1 hP 45 nb_a45 rfl 0 (by decide) w_5 (fun _ h9 => h9) rfl dX6_put_56 ?_
              refine lv_iload_n hx hb dX6_put_59 rfl (lv_at hl 3 rfl) ?_
              refine lv_aload hx hb dX6_put_60 (lv_at hl 0 rfl) ?_
              refine lv_iload_n hx hb dX6_put_62 rfl (lv_at hl 4 rfl) ?_
              refine nb_callV (n := 1) (As := [.int p2]) (rest := [.int p1, .ref (ad 46)]) hx hb hml hown hts hK hZ hP hS (k_X2_lowestBits_45 had M N p2) gX6_put_X2_lowestBits rfl (by decide +kernel) (nb_rm (Nat.le_of_ble_eq_true rfl) (Nat.le_of_ble_eq_true rfl)) nb_a45 rfl rfl rfl hl.1 rfl (Nat.le_of_ble_eq_true rfl) dX6_put_63 (fun H locs hP hS => ?_)
              refine W.eq (g2 := F0 m 66 ls [.int (f_X2_lowestBits_45 M p2), .int p1, .ref (ad 46)]) rfl ?_
              obtain ⟨c_21, h⟩ := nb_c h
              refine nb_iast hx hb had hK hP hS nb_a46 c_21 (nb_t46 _ _) dX6_put_66 (fun H locs hP hS => ?_)
              obtain ⟨M_22, e_22, h⟩ := nb_nE h
              rw [e_22] at hP
              refine lv_iconst (v := (1 : Int32)) hx hb dX6_put_67 (by decide) ?_
              obtain ⟨rfl, rfl⟩ := nb_e2 h
              exact nb_iret hx hb hr hlk hP hS dX6_put_68
            · have h := nb_f c_19 h
              refine lv_aload_n hx hb dX6_put_48 rfl (lv_at hl 1 rfl) ?_
              refine lv_iconst (v := (1 : Int32)) hx hb dX6_put_49 (by decide) ?_
              obtain ⟨r_23, M_23, e_23, h⟩ := nb_pE h
              refine nb_callV (n := 1) (As := [.int (1 : Int32)]) (rest := []) hx hb hml hown hts hK hZ hP hS (k_X6_fail had M N (1 : Int32) e_23) gX6_put_X6_fail rfl (by decide +kernel) (nb_rm (Nat.le_of_ble_eq_true rfl) (Nat.le_of_ble_eq_true rfl)) nb_a0 rfl rfl rfl hl.1 rfl (Nat.le_of_ble_eq_true rfl) dX6_put_50 (fun H locs hP hS => ?_)
              refine W.eq (g2 := F0 m 53 ls [.int r_23]) rfl ?_
              obtain ⟨rfl, rfl⟩ := nb_e2 h
              exact nb_iret hx hb hr hlk hP hS dX6_put_53
        · have h := nb_f c_16 h
          refine lv_aload_n hx hb dX6_put_29 rfl (lv_at hl 1 rfl) ?_
          refine lv_iconst (v := (2 : Int32)) hx hb dX6_put_30 (by decide) ?_
          obtain ⟨r_24, M_24, e_24, h⟩ := nb_pE h
          refine nb_callV (n := 1) (As := [.int (2 : Int32)]) (rest := []) hx hb hml hown hts hK hZ hP hS (k_X6_fail had M N (2 : Int32) e_24) gX6_put_X6_fail rfl (by decide +kernel) (nb_rm (Nat.le_of_ble_eq_true rfl) (Nat.le_of_ble_eq_true rfl)) nb_a0 rfl rfl rfl hl.1 rfl (Nat.le_of_ble_eq_true rfl) dX6_put_31 (fun H locs hP hS => ?_)
          refine W.eq (g2 := F0 m 34 ls [.int r_24]) rfl ?_
          obtain ⟨rfl, rfl⟩ := nb_e2 h
          exact nb_iret hx hb hr hlk hP hS dX6_put_34
      · have h := nb_f c_14 h
        by_cases c_25 : p0 = 2
        · have h := nb_t c_25 h
          refine nb_ald (t0 := 3) (E := RX2) (v := (2 : Int32)) hx hb hK hP nb_a42 rfl c_25 (nb_lit rfl) rfl dX6_put_18 ?_
          refine lv_astore (lv' := [(4, .ref (ad 47)), (0, .ref (ad 0)), (1, .int p0), (2, .int p1), (3, .int p2)]) hx hb dX6_put_19 hl (by decide) rfl (fun ls hl => ?_)
          refine lv_aload hx hb dX6_put_21 (lv_at hl 0 rfl) ?_
          refine nb_callV (n := 0) (As := []) (rest := []) hx hb hml hown hts hK hZ hP hS (k_X2_isMissing_47 had M N) gX6_put_X2_isMissing rfl (by decide +kernel) (nb_rm (Nat.le_of_ble_eq_true rfl) (Nat.le_of_ble_eq_true rfl)) nb_a47 rfl rfl rfl hl.1 rfl (Nat.le_of_ble_eq_true rfl) dX6_put_23 (fun H locs hP hS => ?_)
          refine W.eq (g2 := F0 m 26 ls [.int (f_X2_isMissing_47 M)]) rfl ?_
          refine lv_if_eq (tgt := 35) hx hb dX6_put_26 (by decide) (fun c_27 => ?_) (fun c_27 => ?_)
          · have h := nb_t c_27 h
            refine lv_iload_n hx hb dX6_put_35 rfl (lv_at hl 3 rfl) ?_
            refine lv_if_lt (tgt := 48) hx hb dX6_put_36 (by decide) (fun c_28 => ?_) (fun c_28 => ?_)
            · have h := nb_t c_28 h
              refine lv_aload_n hx hb dX6_put_48 rfl (lv_at hl 1 rfl) ?_
              refine lv_iconst (v := (1 : Int32)) hx hb dX6_put_49 (by decide) ?_
              obtain ⟨r_29, M_29, e_29, h⟩ := nb_pE h
              refine nb_callV (n := 1) (As := [.int (1 : Int32)]) (rest := []) hx hb hml hown hts hK hZ hP hS (k_X6_fail had M N (1 : Int32) e_29) gX6_put_X6_fail rfl (by decide +kernel) (nb_rm (Nat.le_of_ble_eq_true rfl) (Nat.le_of_ble_eq_true rfl)) nb_a0 rfl rfl rfl hl.1 rfl (Nat.le_of_ble_eq_true rfl) dX6_put_50 (fun H locs hP hS => ?_)
              refine W.eq (g2 := F0 m 53 ls [.int r_29]) rfl ?_
              obtain ⟨rfl, rfl⟩ := nb_e2 h
              exact nb_iret hx hb hr hlk hP hS dX6_put_53
            · have h := nb_f c_28 h
              refine lv_iload_n hx hb dX6_put_39 rfl (lv_at hl 3 rfl) ?_
              refine lv_aload hx hb dX6_put_40 (lv_at hl 0 rfl) ?_
              refine va_get (v := .int (M.1 47 2)) (C := RX2) (T := TX2) (N := 3) hx hb hts in2 hown hK.1 hP 47 nb_a47 rfl 2 (by decide) w_3 (fun _ h9 => h9) rfl dX6_put_42 ?_
              refine lv_icmp_lt (tgt := 54) hx hb dX6_put_45 (by decide) (fun c_30 => ?_) (fun c_30 => ?_)
              · have h := nb_t c_30 h
                refine lv_aload hx hb dX6_put_54 (lv_at hl 0 rfl) ?_
                refine va_get (v := .ref (ad 48)) (C := RX2) (T := TX2) (N := 3) hx hb hts in2 hown hK.1 hP 47 nb_a47 rfl 0 (by decide) w_5 (fun _ h9 => h9) rfl dX6_put_56 ?_
                refine lv_iload_n hx hb dX6_put_59 rfl (lv_at hl 3 rfl) ?_
                refine lv_aload hx hb dX6_put_60 (lv_at hl 0 rfl) ?_
                refine lv_iload_n hx hb dX6_put_62 rfl (lv_at hl 4 rfl) ?_
                refine nb_callV (n := 1) (As := [.int p2]) (rest := [.int p1, .ref (ad 48)]) hx hb hml hown hts hK hZ hP hS (k_X2_lowestBits_47 had M N p2) gX6_put_X2_lowestBits rfl (by decide +kernel) (nb_rm (Nat.le_of_ble_eq_true rfl) (Nat.le_of_ble_eq_true rfl)) nb_a47 rfl rfl rfl hl.1 rfl (Nat.le_of_ble_eq_true rfl) dX6_put_63 (fun H locs hP hS => ?_)
                refine W.eq (g2 := F0 m 66 ls [.int (f_X2_lowestBits_47 M p2), .int p1, .ref (ad 48)]) rfl ?_
                obtain ⟨c_32, h⟩ := nb_c h
                refine nb_iast hx hb had hK hP hS nb_a48 c_32 (nb_t48 _ _) dX6_put_66 (fun H locs hP hS => ?_)
                obtain ⟨M_33, e_33, h⟩ := nb_nE h
                rw [e_33] at hP
                refine lv_iconst (v := (1 : Int32)) hx hb dX6_put_67 (by decide) ?_
                obtain ⟨rfl, rfl⟩ := nb_e2 h
                exact nb_iret hx hb hr hlk hP hS dX6_put_68
              · have h := nb_f c_30 h
                refine lv_aload_n hx hb dX6_put_48 rfl (lv_at hl 1 rfl) ?_
                refine lv_iconst (v := (1 : Int32)) hx hb dX6_put_49 (by decide) ?_
                obtain ⟨r_34, M_34, e_34, h⟩ := nb_pE h
                refine nb_callV (n := 1) (As := [.int (1 : Int32)]) (rest := []) hx hb hml hown hts hK hZ hP hS (k_X6_fail had M N (1 : Int32) e_34) gX6_put_X6_fail rfl (by decide +kernel) (nb_rm (Nat.le_of_ble_eq_true rfl) (Nat.le_of_ble_eq_true rfl)) nb_a0 rfl rfl rfl hl.1 rfl (Nat.le_of_ble_eq_true rfl) dX6_put_50 (fun H locs hP hS => ?_)
                refine W.eq (g2 := F0 m 53 ls [.int r_34]) rfl ?_
                obtain ⟨rfl, rfl⟩ := nb_e2 h
                exact nb_iret hx hb hr hlk hP hS dX6_put_53
          · have h := nb_f c_27 h
            refine lv_aload_n hx hb dX6_put_29 rfl (lv_at hl 1 rfl) ?_
            refine lv_iconst (v := (2 : Int32)) hx hb dX6_put_30 (by decide) ?_
            obtain ⟨r_35, M_35, e_35, h⟩ := nb_pE h
            refine nb_callV (n := 1) (As := [.int (2 : Int32)]) (rest := []) hx hb hml hown hts hK hZ hP hS (k_X6_fail had M N (2 : Int32) e_35) gX6_put_X6_fail rfl (by decide +kernel) (nb_rm (Nat.le_of_ble_eq_true rfl) (Nat.le_of_ble_eq_true rfl)) nb_a0 rfl rfl rfl hl.1 rfl (Nat.le_of_ble_eq_true rfl) dX6_put_31 (fun H locs hP hS => ?_)
            refine W.eq (g2 := F0 m 34 ls [.int r_35]) rfl ?_
            obtain ⟨rfl, rfl⟩ := nb_e2 h
            exact nb_iret hx hb hr hlk hP hS dX6_put_34
        · have h := nb_f c_25 h
          by_cases c_36 : p0 = 3
          · have h := nb_t c_36 h
            refine nb_ald (t0 := 3) (E := RX2) (v := (3 : Int32)) hx hb hK hP nb_a42 rfl c_36 (nb_lit rfl) rfl dX6_put_18 ?_
            refine lv_astore (lv' := [(4, .ref (ad 49)), (0, .ref (ad 0)), (1, .int p0), (2, .int p1), (3, .int p2)]) hx hb dX6_put_19 hl (by decide) rfl (fun ls hl => ?_)
            refine lv_aload hx hb dX6_put_21 (lv_at hl 0 rfl) ?_
            refine nb_callV (n := 0) (As := []) (rest := []) hx hb hml hown hts hK hZ hP hS (k_X2_isMissing_49 had M N) gX6_put_X2_isMissing rfl (by decide +kernel) (nb_rm (Nat.le_of_ble_eq_true rfl) (Nat.le_of_ble_eq_true rfl)) nb_a49 rfl rfl rfl hl.1 rfl (Nat.le_of_ble_eq_true rfl) dX6_put_23 (fun H locs hP hS => ?_)
            refine W.eq (g2 := F0 m 26 ls [.int (f_X2_isMissing_49 M)]) rfl ?_
            refine lv_if_eq (tgt := 35) hx hb dX6_put_26 (by decide) (fun c_38 => ?_) (fun c_38 => ?_)
            · have h := nb_t c_38 h
              refine lv_iload_n hx hb dX6_put_35 rfl (lv_at hl 3 rfl) ?_
              refine lv_if_lt (tgt := 48) hx hb dX6_put_36 (by decide) (fun c_39 => ?_) (fun c_39 => ?_)
              · have h := nb_t c_39 h
                refine lv_aload_n hx hb dX6_put_48 rfl (lv_at hl 1 rfl) ?_
                refine lv_iconst (v := (1 : Int32)) hx hb dX6_put_49 (by decide) ?_
                obtain ⟨r_40, M_40, e_40, h⟩ := nb_pE h
                refine nb_callV (n := 1) (As := [.int (1 : Int32)]) (rest := []) hx hb hml hown hts hK hZ hP hS (k_X6_fail had M N (1 : Int32) e_40) gX6_put_X6_fail rfl (by decide +kernel) (nb_rm (Nat.le_of_ble_eq_true rfl) (Nat.le_of_ble_eq_true rfl)) nb_a0 rfl rfl rfl hl.1 rfl (Nat.le_of_ble_eq_true rfl) dX6_put_50 (fun H locs hP hS => ?_)
                refine W.eq (g2 := F0 m 53 ls [.int r_40]) rfl ?_
                obtain ⟨rfl, rfl⟩ := nb_e2 h
                exact nb_iret hx hb hr hlk hP hS dX6_put_53
              · have h := nb_f c_39 h
                refine lv_iload_n hx hb dX6_put_39 rfl (lv_at hl 3 rfl) ?_
                refine lv_aload hx hb dX6_put_40 (lv_at hl 0 rfl) ?_
                refine va_get (v := .int (M.1 49 2)) (C := RX2) (T := TX2) (N := 3) hx hb hts in2 hown hK.1 hP 49 nb_a49 rfl 2 (by decide) w_3 (fun _ h9 => h9) rfl dX6_put_42 ?_
                refine lv_icmp_lt (tgt := 54) hx hb dX6_put_45 (by decide) (fun c_41 => ?_) (fun c_41 => ?_)
                · have h := nb_t c_41 h
                  refine lv_aload hx hb dX6_put_54 (lv_at hl 0 rfl) ?_
                  refine va_get (v := .ref (ad 50)) (C := RX2) (T := TX2) (N := 3) hx hb hts in2 hown hK.1 hP 49 nb_a49 rfl 0 (by decide) w_5 (fun _ h9 => h9) rfl dX6_put_56 ?_
                  refine lv_iload_n hx hb dX6_put_59 rfl (lv_at hl 3 rfl) ?_
                  refine lv_aload hx hb dX6_put_60 (lv_at hl 0 rfl) ?_
                  refine lv_iload_n hx hb dX6_put_62 rfl (lv_at hl 4 rfl) ?_
                  refine nb_callV (n := 1) (As := [.int p2]) (rest := [.int p1, .ref (ad 50)]) hx hb hml hown hts hK hZ hP hS (k_X2_lowestBits_49 had M N p2) gX6_put_X2_lowestBits rfl (by decide +kernel) (nb_rm (Nat.le_of_ble_eq_true rfl) (Nat.le_of_ble_eq_true rfl)) nb_a49 rfl rfl rfl hl.1 rfl (Nat.le_of_ble_eq_true rfl) dX6_put_63 (fun H locs hP hS => ?_)
                  refine W.eq (g2 := F0 m 66 ls [.int (f_X2_lowestBits_49 M p2), .int p1, .ref (ad 50)]) rfl ?_
                  obtain ⟨c_43, h⟩ := nb_c h
                  refine nb_iast hx hb had hK hP hS nb_a50 c_43 (nb_t50 _ _) dX6_put_66 (fun H locs hP hS => ?_)
                  obtain ⟨M_44, e_44, h⟩ := nb_nE h
                  rw [e_44] at hP
                  refine lv_iconst (v := (1 : Int32)) hx hb dX6_put_67 (by decide) ?_
                  obtain ⟨rfl, rfl⟩ := nb_e2 h
                  exact nb_iret hx hb hr hlk hP hS dX6_put_68
                · have h := nb_f c_41 h
                  refine lv_aload_n hx hb dX6_put_48 rfl (lv_at hl 1 rfl) ?_
                  refine lv_iconst (v := (1 : Int32)) hx hb dX6_put_49 (by decide) ?_
                  obtain ⟨r_45, M_45, e_45, h⟩ := nb_pE h
                  refine nb_callV (n := 1) (As := [.int (1 : Int32)]) (rest := []) hx hb hml hown hts hK hZ hP hS (k_X6_fail had M N (1 : Int32) e_45) gX6_put_X6_fail rfl (by decide +kernel) (nb_rm (Nat.le_of_ble_eq_true rfl) (Nat.le_of_ble_eq_true rfl)) nb_a0 rfl rfl rfl hl.1 rfl (Nat.le_of_ble_eq_true rfl) dX6_put_50 (fun H locs hP hS => ?_)
                  refine W.eq (g2 := F0 m 53 ls [.int r_45]) rfl ?_
                  obtain ⟨rfl, rfl⟩ := nb_e2 h
                  exact nb_iret hx hb hr hlk hP hS dX6_put_53
            · have h := nb_f c_38 h
              refine lv_aload_n hx hb dX6_put_29 rfl (lv_at hl 1 rfl) ?_
              refine lv_iconst (v := (2 : Int32)) hx hb dX6_put_30 (by decide) ?_
              obtain ⟨r_46, M_46, e_46, h⟩ := nb_pE h
              refine nb_callV (n := 1) (As := [.int (2 : Int32)]) (rest := []) hx hb hml hown hts hK hZ hP hS (k_X6_fail had M N (2 : Int32) e_46) gX6_put_X6_fail rfl (by decide +kernel) (nb_rm (Nat.le_of_ble_eq_true rfl) (Nat.le_of_ble_eq_true rfl)) nb_a0 rfl rfl rfl hl.1 rfl (Nat.le_of_ble_eq_true rfl) dX6_put_31 (fun H locs hP hS => ?_)
              refine W.eq (g2 := F0 m 34 ls [.int r_46]) rfl ?_
              obtain ⟨rfl, rfl⟩ := nb_e2 h
              exact nb_iret hx hb hr hlk hP hS dX6_put_34
          · have h := nb_f c_36 h
            cases h
  · have h := nb_t c_2 h
    refine lv_aload_n hx hb dX6_put_7 rfl (lv_at hl 0 rfl) ?_
    refine lv_iconst (v := (1 : Int32)) hx hb dX6_put_8 (by decide) ?_
    obtain ⟨r_47, M_47, e_47, h⟩ := nb_pE h
    refine nb_callV (n := 1) (As := [.int (1 : Int32)]) (rest := []) hx hb hml hown hts hK hZ hP hS (k_X6_fail had M N (1 : Int32) e_47) gX6_put_X6_fail rfl (by decide +kernel) (nb_rm (Nat.le_of_ble_eq_true rfl) (Nat.le_of_ble_eq_true rfl)) nb_a0 rfl rfl rfl hl.1 rfl (Nat.le_of_ble_eq_true rfl) dX6_put_9 (fun H locs hP hS => ?_)
    refine W.eq (g2 := F0 m 12 ls [.int r_47]) rfl ?_
    obtain ⟨rfl, rfl⟩ := nb_e2 h
    exact nb_iret hx hb hr hlk hP hS dX6_put_12
end GEN
